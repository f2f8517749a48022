/-! the class's tokens -/
def fOK (F : Nat → Nat) (ty : Nat) : Prop := ∀ j, j < ty → F j < 256
theorem cin_lt {F : Nat → Nat} {ty j : Nat} (h : fOK F ty) : inr (if j < ty then nI (F j) else (-9)) 97 122 = ltB F ty j := by
  unfold inr ltB
  by_cases q : j < ty
  · have := h j q
    rw [if_pos q]
    have e1 := nI_le_iff (a := 97) (b := F j) (by decide) (by omega)
    have e2 := nI_le_iff (a := F j) (b := 122) (by omega) (by decide)
    exact decide_eq_decide.2 ⟨fun z => ⟨q, e1.1 z.1, e2.1 z.2⟩, fun z => ⟨e1.2 z.2.1, e2.2 z.2.2⟩⟩
  · rw [if_neg q, decide_eq_false (p := (j < ty ∧ 97 ≤ F j ∧ F j ≤ 122)) (fun z => q z.1)]; decide
theorem cin_dg {F : Nat → Nat} {ty j : Nat} (h : fOK F ty) : inr (if j < ty then nI (F j) else (-9)) 48 57 = dgB F ty j := by
  unfold inr dgB
  by_cases q : j < ty
  · have := h j q
    rw [if_pos q]
    have e1 := nI_le_iff (a := 48) (b := F j) (by decide) (by omega)
    have e2 := nI_le_iff (a := F j) (b := 57) (by omega) (by decide)
    exact decide_eq_decide.2 ⟨fun z => ⟨q, e1.1 z.1, e2.1 z.2⟩, fun z => ⟨e1.2 z.2.1, e2.2 z.2.2⟩⟩
  · rw [if_neg q, decide_eq_false (p := (j < ty ∧ 48 ≤ F j ∧ F j ≤ 57)) (fun z => q z.1)]; decide
theorem rv_min {F : Nat → Nat} {n1 n2 cv : Nat} (h1 : n1 ≤ n2) (h : cv = min 100 (rvN F n1 (n2 - n1))) (hd : 48 ≤ F n2) : min 100 (cv * 10 + F n2 - 48) = min 100 (rvN F n1 (n2 + 1 - n1)) := by
  rw [show n2 + 1 - n1 = (n2 - n1) + 1 by omega, rvN, show n1 + (n2 - n1) = n2 by omega]
  by_cases z : 99 < rvN F n1 (n2 - n1)
  · rw [if_pos z]; omega
  · rw [if_neg z]; omega
def nkN (F : Nat → Nat) (ty s : Nat) : Nat := if 99 < nuN F ty s ∨ (F s = 48 ∧ 1 < dgE F ty s - s) then 1 else 3
