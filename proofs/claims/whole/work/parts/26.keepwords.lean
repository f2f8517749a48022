/-! what is kept, rated, seen by the reference -/
section XB4
variable {p : Program} {l : Launch} {e : Env} {R : Room} {s : State} {m : MethodId} {args : Array Value} {below : List Frame} {meth : Method} {c : Code} {H : Heap} {locs : List Loc} {cells slots : Nat} {Q : State → Prop} {pc : Nat} {ls : Array Slot}
variable {D : va_G} {tys : List (ClassId × FieldType)} {A : Nat → Prop} {ww : va_W} {cc : ByteArray} {rest : List Value} {cl : List vw_C} {a : Nat} {H0 : Heap}
theorem x_zast (hexec : p.tables.exec = Jvm.exec) (hb : c.code = cc) (hK : va_K D cl tys s) (hP : va_P D cl ww H) (hD : va_D A ww) (hS : va_S A H0 H locs) (q0 t0 : Nat) {cA : ClassId} {n : Nat} {f : Nat → Int32} (ha : ww[q0]? = some (a, .inl (cA, n, .inl f))) (ht : tys[t0]? = some (cA, .boolean)) {j : Nat} {x : Int32} (hx : vp_nar .boolean x = x) (hj : j < n) (hn : n < 2 ^ 31) (hdg : decode cc pc = .ok (.bastore, 1))
    (kk : ∀ (H1 : Heap) (locs1 : List Loc), va_P D cl (ww.set q0 (a, .inl (cA, n, .inl (upd f j x)))) H1 → va_D A (ww.set q0 (a, .inl (cA, n, .inl (upd f j x)))) → va_S A H0 H1 locs1 → W p l e R s m args below meth c H1 locs1 cells slots Q (F0 m (pc + 1) ls rest)) : W p l e R s m args below meth c H locs cells slots Q (F0 m pc ls (.int x :: .int (nI j) :: .ref a :: rest)) := by
  refine va_zast hexec hb hK hP hD hS q0 t0 ha ht (vp_in_nI hj hn) hdg (fun H1 locs1 h1 h2 h3 => ?_)
  rw [nI_clamp (Nat.lt_trans hj hn), hx] at h1 h2
  exact kk H1 locs1 h1 h2 h3
end XB4
theorem inr_99 {v : Int32} (h : inr v 1 99 = true) : ∃ j, j < 100 ∧ v = nI j := by
  obtain ⟨h1, h2⟩ := of_decide_eq_true h
  refine inb_nI (n := 100) (by omega) (decide_eq_true ⟨?_, ?_⟩)
  · exact Int32.le_trans (by decide) h1
  · rw [Int32.lt_iff_toInt_lt]; rw [Int32.le_iff_toInt_le] at h2
    have e1 : (99 : Int32).toInt = 99 := by decide
    have e2 : (nI 100).toInt = 100 := by decide
    omega
theorem inr_01 {v : Int32} (h : inr v 0 1 = true) : ∃ j, j < 2 ∧ v = nI j := by
  obtain ⟨h1, h2⟩ := of_decide_eq_true h
  refine inb_nI (n := 2) (by omega) (decide_eq_true ⟨h1, ?_⟩)
  rw [Int32.lt_iff_toInt_lt]; rw [Int32.le_iff_toInt_le] at h2
  have e1 : (1 : Int32).toInt = 1 := by decide
  have e2 : (nI 2).toInt = 2 := by decide
  omega
theorem inr_18 {v : Int32} (h : inr v 1 8 = true) : ∃ j, 1 ≤ j ∧ j ≤ 8 ∧ v = nI j := by
  obtain ⟨h1, h2⟩ := of_decide_eq_true h
  obtain ⟨j, hj, rfl⟩ := inb_nI (n := 9) (by omega) (show inb v 9 = true from decide_eq_true ⟨Int32.le_trans (by decide) h1, by
    rw [Int32.lt_iff_toInt_lt]; rw [Int32.le_iff_toInt_le] at h2
    have e1 : (8 : Int32).toInt = 8 := by decide
    have e2 : (nI 9).toInt = 9 := by decide
    omega⟩)
  refine ⟨j, ?_, by omega, rfl⟩
  rw [Int32.le_iff_toInt_le, nI_toInt (by omega)] at h1
  have e1 : (1 : Int32).toInt = 1 := by decide
  omega
theorem kd5 {v : Int32} (h : inr v 0 5 = true) (h0 : ¬ v = 0) (h1 : ¬ v = 1) (h2 : ¬ v = 2) (h3 : ¬ v = 3) (h4 : ¬ v = 4) : v = 5 := by
  obtain ⟨p1, p2⟩ := of_decide_eq_true h
  obtain ⟨j, hj, rfl⟩ := inb_nI (n := 6) (by omega) (show inb v 6 = true from decide_eq_true ⟨p1, by
    rw [Int32.lt_iff_toInt_lt]; rw [Int32.le_iff_toInt_le] at p2
    have e1 : (5 : Int32).toInt = 5 := by decide
    have e2 : (nI 6).toInt = 6 := by decide
    omega⟩)
  match j, hj with
  | 0, _ => exact absurd rfl h0
  | 1, _ => exact absurd rfl h1
  | 2, _ => exact absurd rfl h2
  | 3, _ => exact absurd rfl h3
  | 4, _ => exact absurd rfl h4
  | 5, _ => rfl
theorem as_5 {v : Int32} (h : inr v 0 5 = true) (h0 : ¬ v = 0) (h1 : ¬ v = 1) (h2 : ¬ v = 2) (h3 : ¬ v = 3) (h4 : ¬ v = 4) : asF v = 100001 := by rw [kd5 h h0 h1 h2 h3 h4]; rfl
def aRate (n k : Nat) (xs ys rf pr bu : Nat → Int32) (wd kd h : Int32) : Int32 := if inr kd 0 5 = true then (if inb h n = true then rtF kd (prOf pr k (rf (tn h))) (prOf bu k (rf (tn h))) (nI (cntB (fun b => tchb xs ys (tn h) b) n)) wd h else (-1000000)) else (-1000000)
def nRate (n : Nat) (tra : Int64) (kd h : Int32) : Int64 := if inr kd 0 5 = true then (if inb h n = true then tra + asF kd else tra) else tra
theorem fit_no1 {sh sm si : Nat → Int32} {i g : Nat} (e : sh i = nI g) (hg : g < 8) (h2 : ¬ si g = sm i) : false = fitB sh sm si (i + 1) := (fit_no2 (Nat.lt_succ_self i) e hg h2).symm
theorem fit_f {sh sm si : Nat → Int32} {i : Nat} (h : false = fitB sh sm si i) : false = fitB sh sm si (i + 1) := by rw [fitB, ← h]; rfl
theorem fit_congr {sh sm si si2 : Nat → Int32} (h : ∀ g, g < 8 → si g = si2 g) : ∀ i, fitB sh sm si i = fitB sh sm si2 i
  | 0 => rfl
  | i + 1 => by
    rw [fitB, fitB, fit_congr h i]
    congr 1
    refine decide_eq_decide.2 (and_congr_right (fun q => ?_))
    obtain ⟨j, hj, e⟩ := inb_nI (by omega) q
    rw [e, tnI (by omega), h j hj]
def begB (xs ys rf bu sh sm : Nat → Int32) (n k : Nat) (w : Int32) (sn : Nat) (h : Nat) : Bool := burB bu k rf h && fitB sh sm (fS rf xs ys n w h 98) sn
def apI (tx : Nat → Int32) (v : Int64) (ty nn d : Nat) : Nat → Int32 := fun j => if ty ≤ j ∧ j < ty + d then nI (byV v (nn - 1 - (j - ty))) else tx j
theorem apI_0 {tx : Nat → Int32} {v : Int64} {ty nn : Nat} : apI tx v ty nn 0 = tx := by
  funext j; exact if_neg (by omega)
theorem apI_s {tx : Nat → Int32} {v : Int64} {ty nn i : Nat} (hi : i + 1 ≤ nn) : upd (apI tx v ty nn (nn - (i + 1))) (ty + (nn - (i + 1))) (nI (byV v i)) = apI tx v ty nn (nn - i) := by
  funext j
  unfold apI
  by_cases e : j = ty + (nn - (i + 1))
  · subst e
    rw [pk_us, if_pos (by omega)]
    congr 2; omega
  · rw [pk_un e]
    by_cases z : ty ≤ j ∧ j < ty + (nn - (i + 1))
    · rw [if_pos z, if_pos (by omega)]
    · rw [if_neg z, if_neg (by omega)]
def aType (ty : Nat) (m_ : Int32) : Int32 := if inr m_ 1 8 = true then (if ty + tn m_ ≤ 300 then nI (ty + tn m_) else (-3)) else (-1)
def tyF (ty : Nat) (m_ : Int32) : Nat := if inr m_ 1 8 = true then (if ty + tn m_ ≤ 300 then ty + tn m_ else ty) else ty
def txF (tx : Nat → Int32) (v : Int64) (ty : Nat) (m_ : Int32) : Nat → Int32 := if inr m_ 1 8 = true then (if ty + tn m_ ≤ 300 then apI tx v ty (tn m_) (tn m_) else tx) else tx
def keptR (kp s_ kp2 : Nat → Int32) (b i : Nat) : Prop := (∀ j, j < i → kp2 (27 * b + j) = s_ j) ∧ ∀ j, (j < 27 * b ∨ 27 * b + 27 ≤ j) → kp2 j = kp j
theorem kept_up {kp s_ ka : Nat → Int32} {b i : Nat} (hi : i < 27) (h : keptR kp s_ ka b i) : keptR kp s_ (upd ka (27 * b + i) (s_ i)) b (i + 1) := by
  refine ⟨fun j hj => ?_, fun j hj => ?_⟩
  · by_cases e : j = i
    · subst e; exact pk_us
    · rw [pk_un (by omega)]; exact h.1 j (by omega)
  · rw [pk_un (by omega)]; exact h.2 j hj
theorem yr_up3 {xs ys rf pr bu : Nat → Int32} {n k y h w : Nat} {v lot sv l1 l3 sv2 : Int32} {l0 : Int32} (e : (sv, l0) = yrF xs ys rf pr bu n k v lot y) (h1 : l1 = nxt l0) (h3 : l3 = nxt l1) (hh : h = drN l1 % n) (hw : w = drN (nxt l1) % 5) (hs : sv2 = sv - nI (lostN xs ys rf pr bu n k (nI w) h) + nI (lostN xs ys (fun _ => v) pr bu n k (nI w) h)) : (sv2, l3) = yrF xs ys rf pr bu n k v lot (y + 1) := by
  rw [h3]; exact yr_up e h1 rfl hh hw hs
theorem inb_n9 (k : Nat) : inb (-9) k = false := decide_eq_false (fun z => absurd z.1 (by decide))
