/-! the one sort that a house has in every lawful row -/
def onA (Aw : Nat → Nat → Bool) (h sv : Nat) : Nat → Nat → Bool := fun j w => Aw j w && (!decide (j = h) || decide (w = sv))
def onP (ns ks : Nat) (Aw Lw : Nat → Nat → Bool) (cf : Nat → Nat → Nat) (h : Nat) : Nat → Bool := fun sv => decide ((enumF ns ks (onA Aw h sv) (stK Lw cf ns) ns z0 (1000000, z0)).1 < 1000000)
def onS (P : Nat → Bool) : Nat → Int32
  | 0 => (-9)
  | i + 1 => if P i = true then nI i else onS P i
def oneS (P : Nat → Bool) (k : Nat) : Int32 := one4 (nI (mkM P k))
theorem onS_congr {P Q : Nat → Bool} : ∀ {n : Nat}, (∀ g, g < n → P g = Q g) → onS P n = onS Q n
  | 0, _ => rfl
  | n + 1, h => by rw [onS, onS, h n (Nat.lt_succ_self n), onS_congr (fun g hg => h g (Nat.lt_succ_of_lt hg))]
theorem one_all {P : Nat → Bool} {k : Nat} (hk : k ≤ 4) : oneS P k = (if cntB P k ≤ 1 then onS P k else (-9)) := by
  have key : ∀ p0 p1 p2 p3 : Bool, ∀ n : Fin 5, oneS (fun i => ([p0, p1, p2, p3] : List Bool).getD i false) n.val = (if cntB (fun i => ([p0, p1, p2, p3] : List Bool).getD i false) n.val ≤ 1 then onS (fun i => ([p0, p1, p2, p3] : List Bool).getD i false) n.val else (-9)) := by decide +kernel
  have e : ∀ g, g < k → P g = (fun i => ([P 0, P 1, P 2, P 3] : List Bool).getD i false) g := by
    intro g hg
    match g, (show g < 4 by omega) with
    | 0, _ => rfl
    | 1, _ => rfl
    | 2, _ => rfl
    | 3, _ => rfl
  unfold oneS at key ⊢
  rw [mkM_congr e, cntB_congr e, onS_congr e]
  exact key _ _ _ _ ⟨k, by omega⟩
theorem cntB_up {P : Nat → Bool} {i : Nat} : ∀ d, cntB P i ≤ cntB P (i + d)
  | 0 => Nat.le_refl _
  | d + 1 => Nat.le_trans (cntB_up d) (Nat.le_add_right _ _)
theorem onS_none {P : Nat → Bool} : ∀ {i : Nat}, i ≤ 4 → onS P i = (-9) → cntB P i = 0
  | 0, _, _ => rfl
  | i + 1, hi, h => by
    rw [onS] at h
    rw [cntB]
    by_cases q : P i = true
    · rw [if_pos q] at h
      have e : ∀ j : Fin 4, ¬ nI j.val = (-9 : Int32) := by decide
      exact absurd h (e ⟨i, by omega⟩)
    · rw [if_neg q] at h ⊢; rw [onS_none (by omega) h]
theorem onS_some {P : Nat → Bool} : ∀ {i : Nat}, ¬ onS P i = (-9) → 1 ≤ cntB P i
  | 0, h => absurd rfl h
  | i + 1, h => by
    rw [onS] at h
    rw [cntB]
    by_cases q : P i = true
    · rw [if_pos q]; omega
    · rw [if_neg q] at h ⊢; exact onS_some h
theorem on_two {P : Nat → Bool} {i k : Nat} (hk : k ≤ 4) (hi : i < k) (h : ¬ onS P i = (-9)) (hP : P i = true) : (-9 : Int32) = oneS P k := by
  have h1 := onS_some h
  have h2 := cntB_up (P := P) (i := i + 1) (k - (i + 1))
  rw [show i + 1 + (k - (i + 1)) = k by omega, cntB, if_pos hP] at h2
  rw [one_all hk, if_neg (by omega)]
theorem on_y {P : Nat → Bool} {i : Nat} {on : Int32} (hi : i < 4) (ho : on = onS P i) (h : on = (-9)) (hP : P i = true) : nI i = onS P (i + 1) ∧ cntB P (i + 1) ≤ 1 := by
  rw [ho] at h
  rw [onS, cntB, if_pos hP, if_pos hP, onS_none (by omega) h]; exact ⟨rfl, Nat.le_refl _⟩
theorem on_n {P : Nat → Bool} {i : Nat} {on : Int32} (ho : on = onS P i ∧ cntB P i ≤ 1) (hP : P i = false) : on = onS P (i + 1) ∧ cntB P (i + 1) ≤ 1 := by
  rw [onS, cntB, hP, if_neg (by decide), if_neg (by decide)]; exact ho
theorem stK_fst {ns ks q : Nat} {Aw Lw : Nat → Nat → Bool} {cf : Nat → Nat → Nat} {r bz bz2 : Nat → Nat} {L : Nat} (hq : q ≤ ns) (hr : ∀ j, j < ns - q → r j < ks ∧ Aw j (r j) = true) : (enumF ns ks Aw (stK Lw cf ns) q r (L, bz)).1 = (enumF ns ks Aw (stK Lw cf ns) q r (L, bz2)).1 :=
  enumF_rel (s1 := stK Lw cf ns) (s2 := stK Lw cf ns) (fun (a b : Nat × (Nat → Nat)) => a.1 = b.1) (fun _ _ _ _ => rfl) (fun r a b _ h => by unfold stK; rw [h]; split <;> first | rfl | exact h) hq hr rfl
theorem on_is {ns ks h sv LL2 : Nat} {Aw Lw : Nat → Nat → Bool} {cf : Nat → Nat → Nat} {bz bz2 : Nat → Nat} {b : Bool} (he : (LL2, bz2) = enumF ns ks (onA Aw h sv) (stK Lw cf ns) ns z0 (1000000, bz)) (hb : (decide (LL2 < 1000000)) = b) : onP ns ks Aw Lw cf h sv = b := by
  unfold onP
  rw [stK_fst (bz2 := bz) (Nat.le_refl _) (fun j hj => by omega), ← he]; exact hb
theorem only_al {ns ks h sv : Nat} {Aw : Nat → Nat → Bool} {AL ALa : Nat → Nat} (hAL : ∀ j, j < ns → AL j < 16 ∧ ∀ v, v < ks → (AL j).testBit v = Aw j v) (ha : ∀ j, ¬ j = h → ALa j = AL j) :
    ∀ j, j < ns → updN ALa h (AL h &&& 2 ^ sv) j < 16 ∧ ∀ v, v < ks → (updN ALa h (AL h &&& 2 ^ sv) j).testBit v = onA Aw h sv j v := by
  intro j hj
  obtain ⟨h1, h2⟩ := hAL j hj
  unfold onA
  by_cases e : j = h
  · subst e
    rw [updN_s]
    refine ⟨Nat.lt_of_le_of_lt Nat.and_le_left h1, fun v hv => ?_⟩
    rw [Nat.testBit_and, h2 v hv, Nat.testBit_two_pow, decide_eq_true (rfl : j = j)]
    simp [eq_comm]
  · rw [updN_n e, ha j e]
    refine ⟨h1, fun v hv => ?_⟩
    rw [h2 v hv, decide_eq_false e]; simp
theorem on_end {P : Nat → Bool} {sv k : Nat} {on : Int32} (hk : k ≤ 4) (e : sv = k) (ho : on = onS P sv ∧ cntB P sv ≤ 1) : on = oneS P k := by
  subst e
  rw [one_all hk, if_pos ho.2]; exact ho.1
