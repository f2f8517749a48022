/-! the row of tokens -/
def stP (F : Nat → Nat) (ty : Nat) : Nat → Nat
  | 0 => skN F ty 0
  | k + 1 => nxP F ty (stP F ty k)
theorem wkF_le {F : Nat → Nat} {ty s : Nat} : wkF F ty s ≤ 13 := by
  unfold wkF
  repeat' split
  all_goals omega
theorem ckN_le {F : Nat → Nat} {ty s : Nat} : ckN F ty s ≤ 13 := by
  have := wkF_le (F := F) (ty := ty) (s := s)
  unfold ckN nkN
  repeat' split
  all_goals omega
def tokR (F : Nat → Nat) (ty sz : Nat) (ka kb kc : Nat → Nat) : Prop := ∀ j, j < sz → ka j = ckN F ty (stP F ty j) ∧ kb j = cvN F ty (stP F ty j) ∧ kc j = stP F ty j
theorem tok_up {F : Nat → Nat} {ty sz x y z : Nat} {ka kb kc : Nat → Nat} (h : tokR F ty sz ka kb kc) (e1 : x = ckN F ty (stP F ty sz)) (e2 : y = cvN F ty (stP F ty sz)) (e3 : z = stP F ty sz) : tokR F ty (sz + 1) (updN ka sz x) (updN kb sz y) (updN kc sz z) := by
  intro j hj
  by_cases e : j = sz
  · subst e; rw [updN_s, updN_s, updN_s]; exact ⟨e1, e2, e3⟩
  · rw [updN_n e, updN_n e, updN_n e]; exact h j (by omega)
