/-! the search and the reference's rows -/
theorem al_bits {n k : Nat} {bo : Nat → Int32} (hk : k ≤ 4) (hbo : rOK n k bo) {j : Nat} (hj : j < n) : alN bo k j < 2 ^ k ∧ ∀ v, v < k → (alN bo k j).testBit v = AwM bo j v := by
  unfold alN AwM
  rcases hbo j hj with e | ⟨w, hw, e⟩
  · rw [if_pos e]
    refine ⟨by have := Nat.one_le_two_pow (n := k); omega, fun v hv => ?_⟩
    rw [Nat.testBit_two_pow_sub_one, decide_eq_true e, decide_eq_true hv]; rfl
  · have h9 : ¬ bo j = (-9) := by rw [e]; exact nI_ne9 (by omega)
    rw [if_neg h9, e, tnI (by omega)]
    refine ⟨Nat.pow_lt_pow_right (by omega) hw, fun v hv => ?_⟩
    rw [Nat.testBit_two_pow, decide_eq_false (nI_ne9 (by omega)), Bool.false_or]
    exact decide_eq_decide.2 (nI_eq (by omega) (by omega)).symm
theorem al_16 {n k : Nat} {bo : Nat → Int32} (hk : k ≤ 4) (hbo : rOK n k bo) {j : Nat} (hj : j < n) : alN bo k j < 16 := Nat.lt_of_lt_of_le (al_bits hk hbo hj).1 (Nat.le_trans (Nat.pow_le_pow_right (n := 2) (by omega) hk) (by decide))
def Lnr (xs ys : Nat → Int32) (sp : Int32) : Nat → Nat → Bool := fun h g => nearb xs ys h sp g
theorem cnt_any {P : Nat → Bool} : ∀ n, (cntB P n = 0) ↔ anyN P n = false
  | 0 => by simp [cntB, anyN]
  | n + 1 => by
    have := cnt_any (P := P) n
    rw [cntB, anyN, Bool.or_eq_false_iff, ← this]
    cases P n <;> simp
theorem law_br {n : Nat} {xs ys : Nat → Int32} {sp : Int32} {r : Nat → Nat} (hc : cOK n xs ys) (hr : ∀ j, j < n → r j < 4) : ∀ m, m ≤ n → lawB (Lnr xs ys sp) r m = decide (brN xs ys (rI r) sp m = 0)
  | 0, _ => rfl
  | m + 1, hm => by
    rw [lawB, brN, law_br hc hr m (by omega)]
    have e : anyN (fun g => Lnr xs ys sp m g && decide (r m = r g)) m = anyN (fun b => isbr xs ys (rI r) sp m b) m := by
      refine anyN_congr (fun g hg => ?_)
      unfold Lnr nearb isbr
      have h9 : ¬ rI r m = (-9) := nI_ne9 (by have := hr m (by omega); omega)
      rw [arb_tch hc (show m < n by omega) (show g < n by omega), arb_spk hc (show m < n by omega) (show g < n by omega), decide_eq_true h9, Bool.true_and]
      congr 1
      exact decide_eq_decide.2 (nI_eq (by have := hr m (by omega); omega) (by have := hr g (by omega); omega)).symm
    rw [e]
    have h2 := cnt_any (P := fun b => isbr xs ys (rI r) sp m b) m
    cases q : anyN (fun b => isbr xs ys (rI r) sp m b) m with
    | false =>
      rw [q] at h2
      have h3 := h2.2 rfl
      rw [h3, Nat.add_zero]; simp
    | true =>
      have h3 : ¬ cntB (fun b => isbr xs ys (rI r) sp m b) m = 0 := fun z => by have := h2.1 z; rw [q] at this; exact absurd this (by decide)
      rw [decide_eq_false (show ¬ brN xs ys (rI r) sp m + cntB (fun b => isbr xs ys (rI r) sp m b) m = 0 by omega)]; simp
theorem forS_0 {σ : Type} {f : Nat → σ → σ} {a : σ} : forS f 0 a = a := rfl
theorem rowsF_enum {σ : Type} {bo : Nat → Int32} {n k : Nat} {step : (Nat → Nat) → σ → σ} {a : σ} : rowsF bo n k step a = enumF n k (AwM bo) step n z0 a := by
  unfold rowsF
  by_cases h : n = 0 ∨ 0 < k
  · rw [if_pos h]
  · rw [if_neg h]
    obtain ⟨q, rfl⟩ : ∃ q, n = q + 1 := ⟨n - 1, by omega⟩
    rw [enumF, show k = 0 by omega]; rfl
section BOTH
variable {n k : Nat} {xs ys bo pr rf : Nat → Int32} {sp : Int32} {PR : Nat → Nat}
def Rch (a : Nat × (Nat → Nat)) (b : Int32 × (Nat → Nat)) : Prop := (a.1 = 1000000 ∧ b.1 = (-9)) ∨ (a.1 < 1000000 ∧ b.1 = nI a.1 ∧ a.2 = b.2)
theorem rch_step {L : Bool} {s : Nat} {sI : Int32} {r : Nat → Nat} {a : Nat × (Nat → Nat)} {b : Int32 × (Nat → Nat)} {P : Prop} [Decidable P] (hP : L = decide P) (hs : s < 1000000) (hsI : sI = nI s) (h : Rch a b) :
    Rch (if L = true ∧ s < a.1 then (s, r) else a) (if P ∧ (b.1 = (-9) ∨ sI < b.1) then (sI, r) else b) := by
  by_cases z : P
  · rw [decide_eq_true z] at hP
    rcases h with ⟨h1, h2⟩ | ⟨h1, h2, h3⟩
    · rw [if_pos ⟨hP, by omega⟩, if_pos ⟨z, Or.inl h2⟩]
      exact Or.inr ⟨hs, hsI, rfl⟩
    · by_cases q : s < a.1
      · rw [if_pos ⟨hP, q⟩, if_pos ⟨z, Or.inr (by rw [hsI, h2]; exact nI_lt q (by omega))⟩]
        exact Or.inr ⟨hs, hsI, rfl⟩
      · rw [if_neg (fun w => q w.2), if_neg (fun w => w.2.elim (fun w => by rw [h2] at w; exact absurd w (nI_ne9 (by omega))) (fun w => by rw [hsI, h2] at w; exact absurd w (nI_nlt (by omega) (by omega))))]
        exact Or.inr ⟨h1, h2, h3⟩
  · rw [decide_eq_false z] at hP
    rw [if_neg (fun w => by rw [hP] at w; exact absurd w.1 (by decide)), if_neg (fun w => z w.1)]
    exact h
theorem sumI_N {f : Nat → Int32} {g : Nat → Nat} : ∀ {m : Nat}, (∀ j, j < m → f j = nI (g j)) → sumI f m = nI (sumN g m)
  | 0, _ => nI_0.symm
  | m + 1, h => by rw [sumI, sumN, sumI_N (fun j hj => h j (by omega)), h m (by omega), nI_add]
theorem rch_ans {LL : Nat} {bz : Nat → Nat} {x : Int32 × (Nat → Nat)} {h : Int32} (hn : n ≤ 8) (hR : Rch (LL, bz) x) (hh : h = (-1) ∨ inb h n = true) : ansK LL bz n h = (if x.1 = (-9) then (-9) else if 0 ≤ h then nI (x.2 (tn h)) else x.1) := by
  unfold ansK
  rcases hR with ⟨h1, h2⟩ | ⟨h1, h2, h3⟩
  · have h1' : LL = 1000000 := h1
    rw [if_neg (by omega), if_pos h2]
  · have h1' : LL < 1000000 := h1
    have h2' : x.1 = nI LL := h2
    have h3' : bz = x.2 := h3
    have hn9 : ¬ x.1 = (-9) := by rw [h2']; exact nI_ne9 (by omega)
    rcases hh with e | e
    · rw [if_pos h1', e, if_neg (show ¬ inb (-1) n = true from fun q => absurd (of_decide_eq_true q).1 (by decide)), if_neg hn9, if_neg (show ¬ ((0 : Int32) ≤ -1) by decide), h2']
    · rw [if_pos h1', if_pos e, if_neg hn9, if_pos (of_decide_eq_true e).1, h3']
theorem cheap_both {BE bz : Nat → Nat} {LL : Nat} {h : Int32} (hn : n ≤ 8) (hk : k ≤ 4) (hc : cOK n xs ys) (hp : ∀ v, v < k → pr v = nI (PR v) ∧ PR v ≤ 99)
    (he : (LL, bz) = enumF n k (AwM bo) (stK (Lnr xs ys sp) (fun _ v => PR v) n) n z0 (1000000, BE)) (hh : h = (-1) ∨ inb h n = true) :
    ansK LL bz n h = (if (rowsF bo n k (stC xs ys pr sp n) ((-9), z0)).1 = (-9) then (-9) else if 0 ≤ h then nI ((rowsF bo n k (stC xs ys pr sp n) ((-9), z0)).2 (tn h)) else (rowsF bo n k (stC xs ys pr sp n) ((-9), z0)).1) := by
  refine rch_ans hn ?_ hh
  rw [he, rowsF_enum]
  refine enumF_rel (s1 := stK (Lnr xs ys sp) (fun _ v => PR v) n) (s2 := stC xs ys pr sp n) Rch (fun _ _ _ _ => rfl) (fun r a b hr h => ?_) (Nat.le_refl _) (fun j hj => by omega) (Or.inl ⟨rfl, rfl⟩)
  have hr4 : ∀ j, j < n → r j < 4 := fun j hj => by have := (hr j hj).1; omega
  unfold stK stC
  refine rch_step (law_br hc hr4 n (Nat.le_refl _)) ?_ ?_ h
  · have := cstN_le (c := fun _ v => PR v) (r := r) (m := 99) (h := n) (fun j hj => (hp _ (hr j hj).1).2)
    omega
  · exact sumI_N (fun j hj => (hp _ (hr j hj).1).1)
theorem chg_oth {r : Nat → Nat} {ch : Nat} : ∀ m, othN rf ch r m = cstN (fun h v => if h = ch then 0 else if nI v = rf h then 0 else 1) r m
  | 0 => rfl
  | m + 1 => by
    have ih := chg_oth (r := r) (ch := ch) m
    unfold othN cstN at ih ⊢
    rw [cntB, sumN, ih]
    congr 1
    show _ = (if m = ch then 0 else if nI (r m) = rf m then 0 else 1)
    by_cases e : m = ch
    · rw [if_pos e, decide_eq_true e]; rfl
    · rw [if_neg e, decide_eq_false e]
      by_cases e2 : nI (r m) = rf m
      · rw [if_pos e2, decide_eq_true e2]; rfl
      · rw [if_neg e2, decide_eq_false e2]; rfl
theorem change_both {BE bz : Nat → Nat} {LL ch sv : Nat} {h : Int32} (hn : n ≤ 8) (hk : k ≤ 4) (hc : cOK n xs ys) (hch : ch < n) (hsv : sv < k)
    (he : (LL, bz) = enumF n k (onA (AwM bo) ch sv) (stK (Lnr xs ys sp) (fun h v => if h = ch then 0 else if nI v = rf h then 0 else 1) n) n z0 (1000000, BE)) (hh : h = (-1) ∨ inb h n = true) :
    ansK LL bz n h = (if (rowsF bo n k (stG xs ys rf sp n ch (nI sv)) ((-9), z0)).1 = (-9) then (-9) else if 0 ≤ h then nI ((rowsF bo n k (stG xs ys rf sp n ch (nI sv)) ((-9), z0)).2 (tn h)) else (rowsF bo n k (stG xs ys rf sp n ch (nI sv)) ((-9), z0)).1) := by
  refine rch_ans hn ?_ hh
  have hstep : ∀ (r : Nat → Nat) (a : Int32 × (Nat → Nat)), ¬ (r ch = sv ∨ 4 ≤ r ch) → stG xs ys rf sp n ch (nI sv) r a = a := fun r a q => by
    unfold stG
    rw [if_neg (fun z => q (Or.inl ((nI_eq (by omega) (by omega)).1 z.1.1)))]
  rw [he, rowsF_enum]
  have e2 : enumF n k (AwM bo) (stG xs ys rf sp n ch (nI sv)) n z0 ((-9), z0) = enumF n k (AwM bo) (fun r a => if r ch = sv then stG xs ys rf sp n ch (nI sv) r a else a) n z0 ((-9), z0) := by
    refine enumF_rel (s1 := stG xs ys rf sp n ch (nI sv)) (s2 := fun r a => if r ch = sv then stG xs ys rf sp n ch (nI sv) r a else a) (fun (a b : Int32 × (Nat → Nat)) => a = b) (fun _ _ _ _ => rfl) (fun r a b hr h => ?_) (Nat.le_refl _) (fun j hj => by omega) rfl
    subst h
    by_cases q : r ch = sv
    · rw [if_pos q]
    · rw [if_neg q]
      exact hstep r a (fun z => z.elim q (fun z => by have := (hr ch hch).1; omega))
  rw [e2, enumF_only (c := ch) (v := sv) hch (fun r a q => if_neg q) (Nat.le_refl _)]
  refine enumF_rel (s1 := stK (Lnr xs ys sp) (fun h v => if h = ch then 0 else if nI v = rf h then 0 else 1) n) (s2 := fun r a => if r ch = sv then stG xs ys rf sp n ch (nI sv) r a else a) Rch (fun _ _ _ _ => rfl) (fun r a b hr h => ?_) (Nat.le_refl _) (fun j hj => by omega) (Or.inl ⟨rfl, rfl⟩)
  have hr4 : ∀ j, j < n → r j < 4 := fun j hj => by have := (hr j hj).1; omega
  have hrc : r ch = sv := by
    have := (hr ch hch).2
    unfold onA at this
    rw [decide_eq_true (rfl : ch = ch), Bool.and_eq_true] at this
    simpa using this.2
  show Rch _ (if r ch = sv then stG xs ys rf sp n ch (nI sv) r b else b)
  rw [if_pos hrc]
  unfold stK stG
  have e3 : (if (nI (r ch) = nI sv ∧ (b.1 = (-9) ∨ nI (othN rf ch r n) < b.1)) ∧ brN xs ys (rI r) sp n = 0 then (nI (othN rf ch r n), r) else b) = (if brN xs ys (rI r) sp n = 0 ∧ (b.1 = (-9) ∨ nI (othN rf ch r n) < b.1) then (nI (othN rf ch r n), r) else b) := by
    by_cases z1 : brN xs ys (rI r) sp n = 0
    · by_cases z2 : b.1 = (-9) ∨ nI (othN rf ch r n) < b.1
      · rw [if_pos ⟨⟨congrArg nI hrc, z2⟩, z1⟩, if_pos ⟨z1, z2⟩]
      · rw [if_neg (fun w => z2 w.1.2), if_neg (fun w => z2 w.2)]
    · rw [if_neg (fun w => z1 w.2), if_neg (fun w => z1 w.1)]
  rw [e3]
  refine rch_step (law_br hc hr4 n (Nat.le_refl _)) ?_ ?_ h
  · have := cstN_le (c := fun h v => if h = ch then 0 else if nI v = rf h then 0 else 1) (r := r) (m := 1) (h := n) (fun j hj => by split; omega; split <;> omega)
    omega
  · rw [chg_oth]
/-- ways -/
theorem forS_sum {f : Nat → Nat → Nat} {g : Nat → Nat} {a : Nat} : ∀ {m : Nat}, (∀ i x, i < m → f i x = x + g i) → forS f m a = a + sumN g m
  | 0, _ => rfl
  | m + 1, h => by rw [forS, sumN, forS_sum (m := m) (fun i x hi => h i x (by omega)), h m _ (by omega)]; omega
theorem sumN_0 : ∀ m, sumN (fun _ => 0) m = 0
  | 0 => rfl
  | m + 1 => by rw [sumN, sumN_0 m]
theorem ways_both {AL NE : Nat → Nat} (hk : k ≤ 4) (hc : cOK n xs ys) (hA : ∀ j, j < n → ∀ v, v < k → (AL j).testBit v = AwM bo j v) (hN : ∀ j, j < n → ∀ g, g < j → (NE j).testBit g = Lnr xs ys sp j g) :
    ∀ (q : Nat) (r pk : Nat → Nat) (a : Nat), q ≤ n → (∀ j, j < n - q → r j < k) → (∀ j, j < n - q → pk j = r j) → enumF n k (AwM bo) (stW xs ys sp n) q r a = a + (if lawB (Lnr xs ys sp) r (n - q) = true then wF n k AL NE q pk else 0)
  | 0, r, pk, a, _, hr, _ => by
    show stW xs ys sp n r a = _
    unfold stW
    rw [Nat.sub_zero, law_br hc (fun j hj => by have := hr j (by omega); omega) n (Nat.le_refl _)]
    by_cases z : brN xs ys (rI r) sp n = 0
    · rw [if_pos z, decide_eq_true z, if_pos rfl]; rfl
    · rw [if_neg z, decide_eq_false z, if_neg (by decide)]
  | q + 1, r, pk, a, hq, hr, hp => by
    rw [enumF]
    have hh : n - (q + 1) < n := by omega
    have e1 : n - q = n - (q + 1) + 1 := by omega
    generalize hg : n - (q + 1) = h at *
    have step : ∀ i x, i < k → (if AwM bo h i = true then enumF n k (AwM bo) (stW xs ys sp n) q (updN r h i) x else x) = x + (if lawB (Lnr xs ys sp) r h = true then (if (frM (AL h) (NE h) pk h).testBit i = true then wF n k AL NE q (updN pk h i) else 0) else 0) := by
      intro i x hi
      have sb := sk_bit (Aw := AwM bo) (Lw := Lnr xs ys sp) (PI := pk) (r := r) (show i < 4 by omega) (hA h hh i hi) (hN h hh) hp (fun j hj => by have := hr j hj; omega)
      by_cases z : AwM bo h i = true
      · rw [if_pos z, ways_both hk hc hA hN q (updN r h i) (updN pk h i) x (by omega) (fun j hj => by
          by_cases e : j = h
          · subst e; rw [updN_s]; exact hi
          · rw [updN_n e]; exact hr j (by omega)) (fun j hj => by
          by_cases e : j = h
          · subst e; rw [updN_s, updN_s]
          · rw [updN_n e, updN_n e]; exact hp j (by omega)), e1, lawB_1, sb, z, Bool.true_and]
        cases lawB (Lnr xs ys sp) r h <;> cases anyN (fun g => Lnr xs ys sp h g && decide (i = r g)) h <;> rfl
      · rw [if_neg z, sb, Bool.eq_false_iff.2 z, Bool.false_and]
        cases lawB (Lnr xs ys sp) r h <;> rfl
    rw [forS_sum (g := fun i => if lawB (Lnr xs ys sp) r h = true then (if (frM (AL h) (NE h) pk h).testBit i = true then wF n k AL NE q (updN pk h i) else 0) else 0) step]
    congr 1
    by_cases z : lawB (Lnr xs ys sp) r h = true
    · rw [if_pos z, wF, hg]
      exact sumN_congr (fun v _ => if_pos z)
    · rw [if_neg z]
      exact (sumN_congr (fun v _ => if_neg z)).trans (sumN_0 k)
theorem ways_end {AL NE PI : Nat → Nat} (hk : k ≤ 4) (hc : cOK n xs ys) (hA : ∀ j, j < n → ∀ v, v < k → (AL j).testBit v = AwM bo j v) (hN : ∀ j, j < n → ∀ g, g < j → (NE j).testBit g = Lnr xs ys sp j g) :
    wF n k AL NE n PI = rowsF bo n k (stW xs ys sp n) 0 := by
  rw [rowsF_enum, ways_both hk hc hA hN n z0 PI 0 (Nat.le_refl _) (fun j hj => by omega) (fun j hj => by omega), Nat.sub_self, Nat.zero_add]
  rfl
/-- the one sort -/
def Rmu (v k : Nat) (a : Int32) (b : Nat × (Nat → Nat)) : Prop := ∃ m, m < 2 ^ k ∧ a = nI m ∧ m.testBit v = decide (b.1 < 1000000)
theorem must_both {h : Nat} (hn : n ≤ 8) (hk : k ≤ 4) (hc : cOK n xs ys) (hh : h < n) : rowsF bo n k (stM xs ys sp n h) 0 = nI (mkM (onP n k (AwM bo) (Lnr xs ys sp) (fun _ _ => 0) h) k) := by
  rw [rowsF_enum]
  have key : ∀ v, v < k → Rmu v k (enumF n k (AwM bo) (stM xs ys sp n h) n z0 0) (enumF n k (onA (AwM bo) h v) (stK (Lnr xs ys sp) (fun _ _ => 0) n) n z0 (1000000, z0)) := by
    intro v hv
    have e1 : enumF n k (onA (AwM bo) h v) (stK (Lnr xs ys sp) (fun _ _ => 0) n) n z0 (1000000, z0) = enumF n k (AwM bo) (fun r a => if r h = v then stK (Lnr xs ys sp) (fun _ _ => 0) n r a else a) n z0 (1000000, z0) := by
      rw [enumF_only (Aw := AwM bo) (c := h) (v := v) (step := fun r a => if r h = v then stK (Lnr xs ys sp) (fun _ _ => 0) n r a else a) hh (fun r a q => if_neg q) (Nat.le_refl _)]
      refine enumF_rel (s1 := stK (Lnr xs ys sp) (fun _ _ => 0) n) (s2 := fun r a => if r h = v then stK (Lnr xs ys sp) (fun _ _ => 0) n r a else a) (fun (a b : Nat × (Nat → Nat)) => a = b) (fun _ _ _ _ => rfl) (fun r a b hr e => ?_) (Nat.le_refl _) (fun j hj => by omega) rfl
      have hrc : r h = v := by
        have := (hr h hh).2
        unfold onA at this
        rw [decide_eq_true (rfl : h = h), Bool.and_eq_true] at this
        simpa using this.2
      rw [e]
      exact (if_pos hrc).symm
    rw [e1]
    refine enumF_rel (s1 := stM xs ys sp n h) (s2 := fun r a => if r h = v then stK (Lnr xs ys sp) (fun _ _ => 0) n r a else a) (Rmu v k) (fun _ _ _ _ => rfl) (fun r a b hr e => ?_) (Nat.le_refl _) (fun j hj => by omega) ⟨0, Nat.two_pow_pos k, nI_0.symm, by rw [Nat.zero_testBit]; rfl⟩
    obtain ⟨m, h1, h2, h3⟩ := e
    have hr4 : ∀ j, j < n → r j < 4 := fun j hj => by have := (hr j hj).1; omega
    have hl := law_br (sp := sp) hc hr4 n (Nat.le_refl _)
    show Rmu v k (a ||| _) (if r h = v then stK (Lnr xs ys sp) (fun _ _ => 0) n r b else b)
    unfold stK
    have hz : cstN (fun _ _ => 0) r n = 0 := by
      have := cstN_le (c := fun _ _ => 0) (r := r) (m := 0) (h := n) (fun j hj => Nat.le_refl _)
      omega
    rw [hz]
    by_cases z : brN xs ys (rI r) sp n = 0
    · rw [decide_eq_true z] at hl
      rw [if_pos z, sh1 (by have := hr4 h hh; omega), h2, fa_or]
      refine ⟨m ||| 2 ^ r h, Nat.or_lt_two_pow h1 (Nat.pow_lt_pow_right (by omega) (hr h hh).1), rfl, ?_⟩
      rw [Nat.testBit_or, Nat.testBit_two_pow, h3]
      by_cases q : r h = v
      · rw [if_pos q, decide_eq_true q, Bool.or_true]
        by_cases q2 : 0 < b.1
        · rw [if_pos ⟨hl, q2⟩]; rfl
        · rw [if_neg (fun w => q2 w.2), decide_eq_true (show b.1 < 1000000 by omega)]
      · rw [if_neg q, decide_eq_false q, Bool.or_false]
    · rw [decide_eq_false z] at hl
      rw [if_neg z, h2]
      refine ⟨m, h1, ?_, ?_⟩
      · rw [← nI_0, fa_or, Nat.or_zero]
      · rw [h3, if_neg (c := lawB (Lnr xs ys sp) r n = true ∧ 0 < b.1) (fun w => by rw [hl] at w; exact absurd w.1 (by decide))]
        split <;> rfl
  have fin : ∀ m, m < 2 ^ k → enumF n k (AwM bo) (stM xs ys sp n h) n z0 0 = nI m → m = mkM (onP n k (AwM bo) (Lnr xs ys sp) (fun _ _ => 0) h) k := by
    intro m hm em
    refine mkM_ext hm (fun v hv => ?_)
    obtain ⟨m2, h1, h2, h3⟩ := key v hv
    have hk16 : 2 ^ k ≤ 16 := Nat.le_trans (Nat.pow_le_pow_right (n := 2) (by omega) hk) (by decide)
    have e := (nI_eq (show m < 2147483648 by omega) (show m2 < 2147483648 by omega)).1 (em.symm.trans h2)
    rw [e, h3]; rfl
  cases k with
  | zero =>
    have e : ∃ m, m < 2 ^ 0 ∧ enumF n 0 (AwM bo) (stM xs ys sp n h) n z0 0 = nI m := by
      obtain ⟨q, rfl⟩ : ∃ q, n = q + 1 := ⟨n - 1, by omega⟩
      exact ⟨0, by decide, by rw [enumF]; exact nI_0.symm⟩
    obtain ⟨m, h1, h2⟩ := e
    rw [h2]; exact congrArg nI (fin m h1 h2)
  | succ k =>
    obtain ⟨m, h1, h2, h3⟩ := key 0 (by omega)
    rw [h2]; exact congrArg nI (fin m h1 h2)
end BOTH
theorem near_sym {n : Nat} {xs ys : Nat → Int32} {sp : Int32} (hc : cOK n xs ys) {h j : Nat} (hh : h < n) (hj : j < n) : nearb xs ys j sp h = nearb xs ys h sp j := by
  unfold nearb
  rw [arb_tch hc hj hh, arb_spk hc hj hh, arb_tch hc hh hj, arb_spk hc hh hj, tchb_sym hc hj hh, spkb_sym hc hj hh]
