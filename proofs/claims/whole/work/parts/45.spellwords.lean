/-! spelling -/
def eqN (F : Nat → Nat) (s i : Nat) : Nat → Bool
  | 0 => true
  | j + 1 => eqN F s i j && decide (wbI i j = nI (F (s + j)))
def spB (F : Nat → Nat) (s d i : Nat) : Bool := decide (wlN i = d) && eqN F s i (wlN i)
theorem eqN_no {F : Nat → Nat} {s i j n : Nat} (hj : j < n) (h : ¬ wbI i j = nI (F (s + j))) : eqN F s i n = false := by
  have key : ∀ d, eqN F s i (j + 1 + d) = false := by
    intro d
    induction d with
    | zero => show (eqN F s i j && _) = false; rw [decide_eq_false h, Bool.and_false]
    | succ d ih => show (eqN F s i (j + 1 + d) && _) = false; rw [ih]; rfl
  have := key (n - (j + 1))
  rw [show j + 1 + (n - (j + 1)) = n by omega] at this
  exact this
theorem eqN_up {F : Nat → Nat} {s i j : Nat} (h : eqN F s i j = true) (h2 : wbI i j = nI (F (s + j))) : eqN F s i (j + 1) = true := by rw [eqN, h, decide_eq_true h2]; rfl
