/-! an answer hangs on the cells below its counts alone -/
section CGR
variable {n k : Nat} {xs ys rf bo pr bu xs2 ys2 rf2 bo2 pr2 bu2 : Nat → Int32}
def agF (n : Nat) (f g : Nat → Int32) : Prop := ∀ j, j < n → f j = g j
theorem prOf_c (hk : k ≤ 4) (hp : agF k pr pr2) (v : Int32) : prOf pr k v = prOf pr2 k v := by
  unfold prOf
  by_cases q : inb v k = true
  · obtain ⟨j, hj, rfl⟩ := inb_nI (by omega) q
    rw [if_pos q, if_pos q, nI_clamp (by omega)]; exact hp j hj
  · rw [if_neg q, if_neg q]
theorem thrb_c (hx : agF n xs xs2) (hy : agF n ys ys2) {a b : Nat} (ha : a < n) (hb : b < n) (w : Int32) : thrb xs ys a b w = thrb xs2 ys2 a b w := by
  unfold thrb; rw [hx a ha, hx b hb, hy a ha, hy b hb]
theorem fS_c (hx : agF n xs xs2) (hy : agF n ys ys2) (hr : agF n rf rf2) (w : Int32) (a0 : Nat) : ∀ mi, fS rf xs ys n w a0 mi = fS rf2 xs2 ys2 n w a0 mi
  | 0 => rfl
  | mi + 1 => by
    funext b
    rw [fS_1, fS_1, fS_c hx hy hr w a0 mi]
    have e : fCb rf xs ys n w (fS rf2 xs2 ys2 n w a0 mi) mi b = fCb rf2 xs2 ys2 n w (fS rf2 xs2 ys2 n w a0 mi) mi b := by
      unfold fCb
      by_cases hb : b < n
      · rw [anyN_congr (Q := fun a => decide (fS rf2 xs2 ys2 n w a0 mi a = nI mi) && (decide (rf2 a = rf2 b) && (tchb xs2 ys2 a b || thrb xs2 ys2 a b w))) (fun a ha => by rw [hr a ha, hr b hb, tchb_congr hx hy ha hb, thrb_c hx hy ha hb])]
      · rw [decide_eq_false hb]; simp
    rw [e]
theorem burB_c (hk : k ≤ 4) (hu : agF k bu bu2) {h : Nat} (hh : h < n) (hr : agF n rf rf2) : burB bu k rf h = burB bu2 k rf2 h := by
  unfold burB; rw [hr h hh, prOf_c hk hu]
theorem cntF_c (hx : agF n xs xs2) (hy : agF n ys ys2) (hr : agF n rf rf2) (w : Int32) (h : Nat) : cntF xs ys rf n w h = cntF xs2 ys2 rf2 n w h := by
  unfold cntF; rw [fS_c hx hy hr]
theorem lostN_c (hk : k ≤ 4) (hx : agF n xs xs2) (hy : agF n ys ys2) (hr : agF n rf rf2) (hp : agF k pr pr2) (hu : agF k bu bu2) (w : Int32) {h : Nat} (hh : h < n) : lostN xs ys rf pr bu n k w h = lostN xs2 ys2 rf2 pr2 bu2 n k w h := by
  unfold lostN prN; rw [burB_c hk hu hh hr, cntF_c hx hy hr, prOf_c hk hp, hr h hh]
theorem aHouse_c (hn : n ≤ 8) (hx : agF n xs xs2) (hy : agF n ys ys2) (hr : agF n rf rf2) (hb : agF n bo bo2) (h what : Int32) : aHouse n xs ys rf bo h what = aHouse n xs2 ys2 rf2 bo2 h what := by
  unfold aHouse
  by_cases q : inb h n = true
  · obtain ⟨j, hj, rfl⟩ := inb_nI (by omega) q
    rw [tnI (by omega), hx j hj, hy j hj, hr j hj, hb j hj, cntB_congr (fun b hb' => tchb_congr hx hy hj hb')]
  · rw [if_neg q, if_neg q]
theorem aSort_c (hk : k ≤ 4) (hp : agF k pr pr2) (hu : agF k bu bu2) (v what : Int32) : aSort k pr bu v what = aSort k pr2 bu2 v what := by
  unfold aSort
  by_cases q : inb v k = true
  · obtain ⟨j, hj, rfl⟩ := inb_nI (by omega) q
    rw [tnI (by omega), hp j hj, hu j hj]
  · rw [if_neg q, if_neg q]
theorem aRoof_c (hn : n ≤ 8) (hr : agF n rf rf2) (hb : agF n bo bo2) (h v : Int32) : aRoof n k rf bo h v = aRoof n k rf2 bo2 h v := by
  unfold aRoof
  by_cases q : inb h n = true
  · obtain ⟨j, hj, rfl⟩ := inb_nI (by omega) q
    rw [tnI (by omega), hr j hj, hb j hj]
  · rw [if_neg q, if_neg q]
theorem upd_ag {m : Nat} {f g : Nat → Int32} (h : agF m f g) (i : Nat) (v : Int32) : agF m (upd f i v) (upd g i v) := by
  intro j hj
  by_cases e : j = i
  · subst e; rw [pk_us, pk_us]
  · rw [pk_un e, pk_un e]; exact h j hj
theorem nRoof_c (hn : n ≤ 8) (hr : agF n rf rf2) (hb : agF n bo bo2) (h v : Int32) : agF n (nRoof n k rf bo h v) (nRoof n k rf2 bo2 h v) := by
  unfold nRoof
  by_cases q : inb h n = true
  · obtain ⟨j, hj, rfl⟩ := inb_nI (by omega) q
    rw [if_pos q, if_pos q, tnI (by omega), hb j hj]
    have hu := upd_ag hr j v
    repeat' split
    all_goals first | exact hu | exact hr
  · rw [if_neg q, if_neg q]; exact hr
theorem nRoof_hi (hn : n ≤ 8) (h v : Int32) {j : Nat} (hj : 8 ≤ j) : nRoof n k rf bo h v j = rf j := by
  unfold nRoof
  by_cases q : inb h n = true
  · obtain ⟨i, hi, rfl⟩ := inb_nI (by omega) q
    rw [if_pos q, tnI (by omega)]
    have hu : upd rf i v j = rf j := pk_un (by omega)
    repeat' split
    all_goals first | exact hu | rfl
  · rw [if_neg q]
theorem nRoof_ok (hn : n ≤ 8) (hk : k ≤ 4) (hr : rOK n k rf) (h v : Int32) : rOK n k (nRoof n k rf bo h v) := by
  unfold nRoof
  by_cases q : inb h n = true
  · obtain ⟨i, hi, rfl⟩ := inb_nI (by omega) q
    rw [if_pos q, tnI (by omega)]
    have hu : (v = (-9) ∨ inb v k = true) → rOK n k (upd rf i v) := fun hv j hj => by
      by_cases e : j = i
      · subst e; rw [pk_us]
        rcases hv with hv | hv
        · exact Or.inl hv
        · exact Or.inr (inb_nI (by omega) hv)
      · rw [pk_un e]; exact hr j hj
    split
    · rename_i h1; exact hu (Or.inl h1)
    · split
      · rename_i h2
        split
        · exact hu (Or.inr h2)
        · split
          · exact hu (Or.inr h2)
          · exact hr
      · exact hr
  · rw [if_neg q]; exact hr
theorem brN_c (hx : agF n xs xs2) (hy : agF n ys ys2) (hr : agF n rf rf2) (sp : Int32) : brN xs ys rf sp n = brN xs2 ys2 rf2 sp n := brN_congr3 hx hy hr n (Nat.le_refl n)
theorem aBreaches_c (hx : agF n xs xs2) (hy : agF n ys ys2) (hr : agF n rf rf2) (sp : Int32) : aBreaches n xs ys rf sp = aBreaches n xs2 ys2 rf2 sp := by unfold aBreaches; rw [brN_c hx hy hr]
theorem enum_c {σ : Type} {A1 A2 : Nat → Nat → Bool} {s1 s2 : (Nat → Nat) → σ → σ} (hA : ∀ h v, h < n → v < k → A1 h v = A2 h v) (hs : ∀ (r : Nat → Nat) (a : σ), (∀ h, h < n → r h < k) → s1 r a = s2 r a) :
    ∀ q, q ≤ n → ∀ (r : Nat → Nat) (a : σ), (∀ h, h < n - q → r h < k) → enumF n k A1 s1 q r a = enumF n k A2 s2 q r a
  | 0, _, r, a, hr => hs r a (fun h hh => hr h (by omega))
  | q + 1, hq, r, a, hr => by
    rw [enumF, enumF]
    refine forS_congr (fun v x hv => ?_)
    rw [hA (n - (q + 1)) v (by omega) hv]
    split
    · refine enum_c hA hs q (by omega) _ _ (fun h hh => ?_)
      by_cases e : h = n - (q + 1)
      · subst e; rw [updN_s]; exact hv
      · rw [updN_n e]; exact hr h (by omega)
    · rfl
theorem rows_c {σ : Type} {s1 s2 : (Nat → Nat) → σ → σ} (hb : agF n bo bo2) (hs : ∀ (r : Nat → Nat) (a : σ), (∀ h, h < n → r h < k) → s1 r a = s2 r a) (a : σ) : rowsF bo n k s1 a = rowsF bo2 n k s2 a := by
  unfold rowsF
  split
  · exact enum_c (fun h v hh _ => by unfold AwM; rw [hb h hh]) hs n (Nat.le_refl n) z0 a (fun h hh => absurd hh (by omega))
  · rfl
theorem rI_br (hx : agF n xs xs2) (hy : agF n ys ys2) (r : Nat → Nat) (sp : Int32) : brN xs ys (rI r) sp n = brN xs2 ys2 (rI r) sp n := brN_c hx hy (fun _ _ => rfl) sp
theorem aCheap_c (hx : agF n xs xs2) (hy : agF n ys ys2) (hb : agF n bo bo2) (hp : agF k pr pr2) (sp h : Int32) : aCheap n k xs ys bo pr sp h = aCheap n k xs2 ys2 bo2 pr2 sp h := by
  have e := rows_c (k := k) hb (s1 := stC xs ys pr sp n) (s2 := stC xs2 ys2 pr2 sp n) (fun r a hr => by
    unfold stC
    rw [rI_br hx hy, sumI_congr (fun g hg => hp (r g) (hr g hg))]) ((-9), z0)
  unfold aCheap
  rw [e]
theorem aWays_c (hx : agF n xs xs2) (hy : agF n ys ys2) (hb : agF n bo bo2) (sp : Int32) : aWays n k xs ys bo sp = aWays n k xs2 ys2 bo2 sp := by
  unfold aWays
  rw [rows_c (k := k) hb (s1 := stW xs ys sp n) (s2 := stW xs2 ys2 sp n) (fun r a hr => by unfold stW; rw [rI_br hx hy]) 0]
theorem aMust_c (hx : agF n xs xs2) (hy : agF n ys ys2) (hb : agF n bo bo2) (sp h : Int32) : aMust n k xs ys bo sp h = aMust n k xs2 ys2 bo2 sp h := by
  unfold aMust
  rw [rows_c (k := k) hb (s1 := stM xs ys sp n (tn h)) (s2 := stM xs2 ys2 sp n (tn h)) (fun r a hr => by unfold stM; rw [rI_br hx hy]) 0]
theorem aChange_c (hn : n ≤ 8) (hx : agF n xs xs2) (hy : agF n ys ys2) (hr : agF n rf rf2) (hb : agF n bo bo2) (h v sp g : Int32) : aChange n k xs ys rf bo h v sp g = aChange n k xs2 ys2 rf2 bo2 h v sp g := by
  have e := rows_c (k := k) hb (s1 := stG xs ys rf sp n (tn h) v) (s2 := stG xs2 ys2 rf2 sp n (tn h) v) (fun r a hr' => by
    unfold stG
    have eo : othN rf (tn h) r n = othN rf2 (tn h) r n := by unfold othN; exact cntB_congr (fun j hj => by rw [hr j hj])
    rw [rI_br hx hy, eo]) ((-9), z0)
  unfold aChange
  by_cases q : inb h n = true
  · obtain ⟨j, hj, rfl⟩ := inb_nI (by omega) q
    rw [e, anyN_congr (Q := fun j => decide (rf2 j = (-9))) (fun j hj => by rw [hr j hj]), tnI (by omega), hb j hj]
  · rw [if_neg q, if_neg q]
theorem aCatches_c (hn : n ≤ 8) (hk : k ≤ 4) (hx : agF n xs xs2) (hy : agF n ys ys2) (hr : agF n rf rf2) (hu : agF k bu bu2) (w fr h : Int32) : aCatches n k xs ys rf bu w fr h = aCatches n k xs2 ys2 rf2 bu2 w fr h := by
  unfold aCatches
  by_cases q : inb fr n = true
  · obtain ⟨j, hj, rfl⟩ := inb_nI (by omega) q
    rw [tnI (by omega), burB_c hk hu hj hr, fS_c hx hy hr]
  · rw [if_neg q, if_neg q]
theorem aFire_c (hn : n ≤ 8) (hk : k ≤ 4) (hx : agF n xs xs2) (hy : agF n ys ys2) (hr : agF n rf rf2) (hp : agF k pr pr2) (hu : agF k bu bu2) (w fr what : Int32) : aFire n k xs ys rf pr bu w fr what = aFire n k xs2 ys2 rf2 pr2 bu2 w fr what := by
  unfold aFire
  by_cases q : inb fr n = true
  · obtain ⟨j, hj, rfl⟩ := inb_nI (by omega) q
    rw [tnI (by omega), burB_c hk hu hj hr, fS_c hx hy hr, cntF_c hx hy hr, lostN_c hk hx hy hr hp hu w hj, prOf_c hk hu, hr j hj]
  · rw [if_neg q, if_neg q]
theorem wst_c {L L2 : Nat → Nat} {B B2 : Nat → Bool} : ∀ {m : Nat}, (∀ h, h < m → L h = L2 h) → (∀ h, h < m → B h = B2 h) → wstR L B m = wstR L2 B2 m
  | 0, _, _ => rfl
  | m + 1, h1, h2 => by rw [wstR, wstR, wst_c (m := m) (fun h hh => h1 h (by omega)) (fun h hh => h2 h (by omega)), h1 m (by omega), h2 m (by omega)]
theorem worst_c (hk : k ≤ 4) (hx : agF n xs xs2) (hy : agF n ys ys2) (hr : agF n rf rf2) (hp : agF k pr pr2) (hu : agF k bu bu2) (w : Int32) : wstR (lostN xs ys rf pr bu n k w) (burB bu k rf) n = wstR (lostN xs2 ys2 rf2 pr2 bu2 n k w) (burB bu2 k rf2) n :=
  wst_c (fun h hh => lostN_c hk hx hy hr hp hu w hh) (fun h hh => burB_c hk hu hh hr)
theorem mean_c (hk : k ≤ 4) (hx : agF n xs xs2) (hy : agF n ys ys2) (hr : agF n rf rf2) (hp : agF k pr pr2) (hu : agF k bu bu2) (w what : Int32) : aMean (sumN (lostN xs ys rf pr bu n k w) n) (cntB (burB bu k rf) n) what = aMean (sumN (lostN xs2 ys2 rf2 pr2 bu2 n k w) n) (cntB (burB bu2 k rf2) n) what := by
  rw [sumN_congr (fun h hh => lostN_c hk hx hy hr hp hu w hh), cntB_congr (fun h hh => burB_c hk hu hh hr)]
theorem fit_c {sh sm sh2 sm2 si : Nat → Int32} : ∀ {m : Nat}, agF m sh sh2 → agF m sm sm2 → fitB sh sm si m = fitB sh2 sm2 si m
  | 0, _, _ => rfl
  | m + 1, h1, h2 => by rw [fitB, fitB, fit_c (m := m) (fun j hj => h1 j (by omega)) (fun j hj => h2 j (by omega)), h1 m (by omega), h2 m (by omega)]
theorem began_c {sh sm sh2 sm2 : Nat → Int32} {sn : Nat} (hk : k ≤ 4) (hx : agF n xs xs2) (hy : agF n ys ys2) (hr : agF n rf rf2) (hu : agF k bu bu2) (hsh : agF sn sh sh2) (hsm : agF sn sm sm2) (w : Int32) : mkM (begB xs ys rf bu sh sm n k w sn) n = mkM (begB xs2 ys2 rf2 bu2 sh2 sm2 n k w sn) n := by
  refine mkM_congr (fun h hh => ?_)
  unfold begB
  rw [burB_c hk hu hh hr, fS_c hx hy hr, fit_c hsh hsm]
theorem aPays_c (hn : n ≤ 8) (hk : k ≤ 4) (hx : agF n xs xs2) (hy : agF n ys ys2) (hr : agF n rf rf2) (hp : agF k pr pr2) (h : Int32) : aPays n k xs ys rf pr h = aPays n k xs2 ys2 rf2 pr2 h := by
  unfold aPays
  by_cases q : inb h n = true
  · obtain ⟨j, hj, rfl⟩ := inb_nI (by omega) q
    rw [if_pos q, if_pos q, tnI (by omega)]
    exact sumI_congr (fun g hg => by unfold payI; rw [tchb_congr hx hy hj hg, hr j hj, hr g hg, prOf_c hk hp, prOf_c hk hp])
  · rw [if_neg q, if_neg q]
theorem ord_c {P P2 : Nat → Bool} {w : Int32} : ∀ {m : Nat}, (∀ h, h < m → P h = P2 h) → ordA P w m = ordA P2 w m
  | 0, _ => rfl
  | m + 1, h1 => by rw [ordA, ordA, ord_c (m := m) (fun h hh => h1 h (by omega)), h1 m (by omega), cntB_congr (fun g hg => h1 g (by omega))]
theorem aOrder_c (hx : agF n xs xs2) (hy : agF n ys ys2) (hr : agF n rf rf2) (old sp w : Int32) : aOrder n xs ys rf old sp w = aOrder n xs2 ys2 rf2 old sp w := by
  unfold aOrder
  rw [brN_c hx hy hr, ord_c (P2 := comesB old rf2) (fun h hh => by unfold comesB; rw [hr h hh])]
theorem yr_c (hn0 : ¬ n = 0) (hk : k ≤ 4) (hx : agF n xs xs2) (hy : agF n ys ys2) (hr : agF n rf rf2) (hp : agF k pr pr2) (hu : agF k bu bu2) (v lot : Int32) : ∀ y, yrF xs ys rf pr bu n k v lot y = yrF xs2 ys2 rf2 pr2 bu2 n k v lot y
  | 0 => rfl
  | y + 1 => by
    rw [yrF, yrF, yr_c hn0 hk hx hy hr hp hu v lot y]
    rw [lostN_c hk hx hy hr hp hu _ (Nat.mod_lt _ (Nat.pos_of_ne_zero hn0)), lostN_c hk hx hy (fun _ _ => rfl : agF n (fun _ => v) (fun _ => v)) hp hu _ (Nat.mod_lt _ (Nat.pos_of_ne_zero hn0))]
theorem aYears_c (hk : k ≤ 4) (hx : agF n xs xs2) (hy : agF n ys ys2) (hr : agF n rf rf2) (hp : agF k pr pr2) (hu : agF k bu bu2) (lot m_ v : Int32) : aYears n k xs ys rf pr bu lot m_ v = aYears n k xs2 ys2 rf2 pr2 bu2 lot m_ v := by
  unfold aYears
  by_cases q : inr m_ 1 99 = true ∧ inb v k = true ∧ ¬ n = 0
  · rw [if_pos q, if_pos q, yr_c q.2.2 hk hx hy hr hp hu]
  · rw [if_neg q, if_neg q]
theorem nYears_c (hk : k ≤ 4) (hx : agF n xs xs2) (hy : agF n ys ys2) (hr : agF n rf rf2) (hp : agF k pr pr2) (hu : agF k bu bu2) (lot m_ v : Int32) : nYears n k xs ys rf pr bu lot m_ v = nYears n k xs2 ys2 rf2 pr2 bu2 lot m_ v := by
  unfold nYears
  by_cases q : inr m_ 1 99 = true ∧ inb v k = true ∧ ¬ n = 0
  · rw [if_pos q, if_pos q, yr_c q.2.2 hk hx hy hr hp hu]
  · rw [if_neg q, if_neg q]
theorem aRate_c (hn : n ≤ 8) (hk : k ≤ 4) (hx : agF n xs xs2) (hy : agF n ys ys2) (hr : agF n rf rf2) (hp : agF k pr pr2) (hu : agF k bu bu2) (wd kd h : Int32) : aRate n k xs ys rf pr bu wd kd h = aRate n k xs2 ys2 rf2 pr2 bu2 wd kd h := by
  unfold aRate
  by_cases q : inb h n = true
  · obtain ⟨j, hj, rfl⟩ := inb_nI (by omega) q
    rw [tnI (by omega), hr j hj, prOf_c hk hp, prOf_c hk hu, cntB_congr (fun b hb' => tchb_congr hx hy hj hb')]
  · rw [if_neg q, if_neg q]
theorem aCount_c {ty : Nat} {sn what : Int32} (hx : agF n xs xs2) (hy : agF n ys ys2) (hr : agF n rf rf2) : aCount n k ty xs ys rf sn what = aCount n k ty xs2 ys2 rf2 sn what := by
  unfold aCount
  rw [cntB_congr (Q := fun h => !decide (rf2 h = (-9))) (fun h hh => by rw [hr h hh]), sumN_congr (fun h hh => cntB_congr (fun b hb' => tchb_congr hx hy hh hb'))]
end CGR
