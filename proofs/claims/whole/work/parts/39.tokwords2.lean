/-! one token after another -/
section TOKN
variable {F : Nat → Nat} {ty : Nat}
theorem skN_le {p : Nat} (h : p ≤ ty) : p ≤ skN F ty p ∧ skN F ty p ≤ ty := runE_le (P := whB F ty) (ty := ty) (ty - p) p (by omega)
theorem leE_le {p : Nat} (h : p ≤ ty) : p ≤ leE F ty p ∧ leE F ty p ≤ ty := runE_le (P := ltB F ty) (ty := ty) (ty - p) p (by omega)
theorem dgE_le {p : Nat} (h : p ≤ ty) : p ≤ dgE F ty p ∧ dgE F ty p ≤ ty := runE_le (P := dgB F ty) (ty := ty) (ty - p) p (by omega)
theorem tkE_le {p : Nat} (h : p ≤ ty) : tkE F ty p ≤ ty := by
  have h1 := (leE_le (F := F) h).2
  have h2 := (dgE_le (F := F) h).2
  unfold tkE
  split
  · exact h
  · split
    · exact h1
    · split
      · exact h2
      · omega
end TOKN
def vaOK (F : Nat → Nat) (ty p : Nat) (va : Int32) : Prop := (tkK F ty p = 1 → va = wdN F ty p) ∧ (tkK F ty p = 2 → va = nI (nuN F ty p))
def nxP (F : Nat → Nat) (ty p : Nat) : Nat := skN F ty (tkE F ty p)
def takeR (F : Nat → Nat) (ty : Nat) (fa va : Int32) (is : Bool) (tp : Nat) (fa2 rr : Int32) (tp2 : Nat) : Prop := (¬ fa < 0 ∧ rr = 0 ∧ fa2 = fa ∧ tp2 = tp) ∨ (fa < 0 ∧ is = false ∧ rr = 0 ∧ fa2 = nI tp ∧ tp2 = tp) ∨ (fa < 0 ∧ is = true ∧ rr = va ∧ fa2 = fa ∧ tp2 = nxP F ty tp)
theorem bb_or (a b : Bool) : bb a ||| bb b = bb (a || b) := by cases a <;> cases b <;> decide
theorem tkK_le {F : Nat → Nat} {ty p : Nat} : tkK F ty p ≤ 4 := by
  unfold tkK
  split
  · omega
  · split
    · split <;> omega
    · split
      · split <;> omega
      · split <;> omega
