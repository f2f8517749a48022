/-! spelling -/
def eqN (F : Nat → Nat) (s i : Nat) : Nat → Bool
  | 0 => true
  | j + 1 => eqN F s i j && decide (wbI i j = nI (F (s + j)))
def spB (F : Nat → Nat) (s d i : Nat) : Bool := decide (wlN i = d) && eqN F s i (wlN i)
theorem eqN_no {F : Nat → Nat} {s i j n : Nat} (hj : j < n) (h : ¬ wbI i j = nI (F (s + j))) : eqN F s i n = false := by
  have key : ∀ d, eqN F s i (j + 1 + d) = false := by
    intro d
    induction d with
    | zero => show (eqN F s i j && _) = false; rw [decide_eq_false h, Bool.and_false]
    | succ d ih => show (eqN F s i (j + 1 + d) && _) = false; rw [ih]; rfl
  have := key (n - (j + 1))
  rw [show j + 1 + (n - (j + 1)) = n by omega] at this
  exact this
theorem eqN_up {F : Nat → Nat} {s i j : Nat} (h : eqN F s i j = true) (h2 : wbI i j = nI (F (s + j))) : eqN F s i (j + 1) = true := by rw [eqN, h, decide_eq_true h2]; rfl
def wkF (F : Nat → Nat) (ty s : Nat) : Nat := if spB F s (leE F ty s - s) 0 = true then 4 else if spB F s (leE F ty s - s) 1 = true then 5 else if spB F s (leE F ty s - s) 2 = true then 6 else if spB F s (leE F ty s - s) 3 = true then 7 else if spB F s (leE F ty s - s) 4 = true then 8 else if spB F s (leE F ty s - s) 5 = true then 9 else if spB F s (leE F ty s - s) 6 = true then 10 else if spB F s (leE F ty s - s) 7 = true then 11 else if spB F s (leE F ty s - s) 8 = true then 12 else if spB F s (leE F ty s - s) 9 = true then 13 else 1
def ckN (F : Nat → Nat) (ty s : Nat) : Nat := if ty ≤ s then 0 else if ltB F ty s = true then wkF F ty s else if dgB F ty s = true then nkN F ty s else if F s = 59 then 2 else 1
def cvN (F : Nat → Nat) (ty s : Nat) : Nat := if dgB F ty s = true then min 100 (nuN F ty s) else 0
theorem cA_9 {F : Nat → Nat} {ty j : Nat} (h : fOK F ty) : (if j < ty then nI (F j) else (-9)) = (-9 : Int32) ↔ ty ≤ j := by
  by_cases q : j < ty
  · have := h j q
    rw [if_pos q]
    exact ⟨fun z => absurd z (nI_ne9 (by omega)), fun z => by omega⟩
  · rw [if_neg q]; exact ⟨fun _ => by omega, fun _ => rfl⟩
theorem lt_dg {F : Nat → Nat} {ty s : Nat} (h : ltB F ty s = true) : dgB F ty s = false := by
  have := of_decide_eq_true h
  exact decide_eq_false (fun q => by omega)
