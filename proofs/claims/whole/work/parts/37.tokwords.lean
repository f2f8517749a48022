/-! tokens of a text, by place -/
abbrev nL (a : Nat) : Int64 := Int64.ofNat a
theorem lg_0 {x y : Int64} : lg_cmp x y = 0 ↔ x = y := by
  unfold lg_cmp
  by_cases h : x > y
  · rw [if_pos h]
    exact ⟨fun q => absurd q (by decide), fun q => absurd h (by rw [q]; exact Int64.lt_irrefl)⟩
  · rw [if_neg h]
    by_cases e : x = y
    · rw [if_pos e]; exact ⟨fun _ => e, fun _ => rfl⟩
    · rw [if_neg e]; exact ⟨fun q => absurd q (by decide), fun q => absurd q e⟩
def adL (a : Int64) (c : Nat) : Int64 := if c = 0 then a else 256 * a + (nI c).toInt64
def nmL (a b c d e : Nat) : Int64 := adL (adL (adL (adL (adL 0 a) b) c) d) e
def wdO (v : Int64) : Int32 := if v = nmL 115 111 114 116 0 then 0 else if v = nmL 104 111 117 115 101 then 1 else if v = nmL 114 111 111 102 0 then 2 else if v = nmL 98 111 117 110 100 then 3 else if v = nmL 119 105 110 100 0 then 4 else if v = nmL 110 111 110 101 0 then 5 else if v = nmL 114 105 103 104 116 then 6 else if v = nmL 100 111 119 110 0 then 7 else if v = nmL 108 101 102 116 0 then 8 else if v = nmL 117 112 0 0 0 then 9 else (-9)
def runE (P : Nat → Bool) : Nat → Nat → Nat
  | 0, p => p
  | d + 1, p => if P p = true then runE P d (p + 1) else p
theorem runE_stop {P : Nat → Bool} {p : Nat} (h : P p = false) : ∀ d, runE P d p = p
  | 0 => rfl
  | d + 1 => by rw [runE, h, if_neg (by decide)]
theorem runE_go {P : Nat → Bool} {p ty : Nat} (h : P p = true) (hp : p < ty) : runE P (ty - p) p = runE P (ty - (p + 1)) (p + 1) := by
  obtain ⟨d, e⟩ : ∃ d, ty - p = d + 1 := ⟨ty - p - 1, by omega⟩
  rw [e, runE, if_pos h, show ty - (p + 1) = d by omega]
theorem runE_le {P : Nat → Bool} {ty : Nat} : ∀ (d p : Nat), p + d ≤ ty → p ≤ runE P d p ∧ runE P d p ≤ ty
  | 0, p, h => ⟨Nat.le_refl _, h⟩
  | d + 1, p, h => by
    rw [runE]
    split
    · have := runE_le (P := P) (ty := ty) d (p + 1) (by omega); omega
    · omega
section TOK
variable (F : Nat → Nat) (ty : Nat)
def whB (p : Nat) : Bool := decide (p < ty ∧ F p = 32)
def ltB (p : Nat) : Bool := decide (p < ty ∧ 97 ≤ F p ∧ F p ≤ 122)
def dgB (p : Nat) : Bool := decide (p < ty ∧ 48 ≤ F p ∧ F p ≤ 57)
def skN (p : Nat) : Nat := runE (whB F ty) (ty - p) p
def leE (p : Nat) : Nat := runE (ltB F ty) (ty - p) p
def dgE (p : Nat) : Nat := runE (dgB F ty) (ty - p) p
def pkL (s : Nat) : Nat → Int64
  | 0 => 0
  | i + 1 => if i < 7 then adL (pkL s i) (F (s + i)) else pkL s i
def rvN (s : Nat) : Nat → Nat
  | 0 => 0
  | i + 1 => if 99 < rvN s i then rvN s i else 10 * rvN s i + (F (s + i) - 48)
def wdN (s : Nat) : Int32 := wdO (pkL F s (leE F ty s - s))
def nuN (s : Nat) : Nat := rvN F s (dgE F ty s - s)
/-- the kind of a token that begins at a place: 0 END, 1 WORD, 2 NUMBER, 3 STOP, 4 WRONG -/
def tkK (s : Nat) : Nat := if ty ≤ s then 0 else if ltB F ty s = true then (if wdN F ty s = (-9) then 4 else 1) else if dgB F ty s = true then (if 99 < nuN F ty s ∨ (F s = 48 ∧ 1 < dgE F ty s - s) then 4 else 2) else if F s = 59 then 3 else 4
def tkE (s : Nat) : Nat := if ty ≤ s then s else if ltB F ty s = true then leE F ty s else if dgB F ty s = true then dgE F ty s else s + 1
end TOK
section TOKR
variable {F : Nat → Nat} {tx : Nat → Int32} {ty : Nat}
def txOK (F : Nat → Nat) (tx : Nat → Int32) (ty : Nat) : Prop := ∀ j, j < ty → tx j = nI (F j) ∧ F j < 256
theorem bAt_in {p : Nat} (h : txOK F tx ty) (hp : p < ty) : bAt tx ty p = nI (F p) := by rw [bAt, if_pos hp]; exact (h p hp).1
theorem bAt_out {p : Nat} (hp : ty ≤ p) : bAt tx ty p = (-1) := by rw [bAt, if_neg (by omega)]
theorem nI_le_iff {a b : Nat} (ha : a < 2147483648) (hb : b < 2147483648) : nI a ≤ nI b ↔ a ≤ b := by
  rw [Int32.le_iff_toInt_le, nI_toInt ha, nI_toInt hb]; omega
theorem in_lt {p : Nat} (h : txOK F tx ty) : inr (bAt tx ty p) 97 122 = ltB F ty p := by
  unfold inr ltB
  by_cases q : p < ty
  · have := (h p q).2
    rw [bAt_in h q]
    refine decide_eq_decide.2 ?_
    have e1 := nI_le_iff (a := 97) (b := F p) (by decide) (by omega)
    have e2 := nI_le_iff (a := F p) (b := 122) (by omega) (by decide)
    exact ⟨fun z => ⟨q, e1.1 z.1, e2.1 z.2⟩, fun z => ⟨e1.2 z.2.1, e2.2 z.2.2⟩⟩
  · rw [bAt_out (by omega), decide_eq_false (p := (p < ty ∧ 97 ≤ F p ∧ F p ≤ 122)) (fun z => q z.1)]; decide
theorem in_dg {p : Nat} (h : txOK F tx ty) : inr (bAt tx ty p) 48 57 = dgB F ty p := by
  unfold inr dgB
  by_cases q : p < ty
  · have := (h p q).2
    rw [bAt_in h q]
    refine decide_eq_decide.2 ?_
    have e1 := nI_le_iff (a := 48) (b := F p) (by decide) (by omega)
    have e2 := nI_le_iff (a := F p) (b := 57) (by omega) (by decide)
    exact ⟨fun z => ⟨q, e1.1 z.1, e2.1 z.2⟩, fun z => ⟨e1.2 z.2.1, e2.2 z.2.2⟩⟩
  · rw [bAt_out (by omega), decide_eq_false (p := (p < ty ∧ 48 ≤ F p ∧ F p ≤ 57)) (fun z => q z.1)]; decide
theorem bAt_eq {p c : Nat} (h : txOK F tx ty) (hc : c < 256) : bAt tx ty p = nI c ↔ (p < ty ∧ F p = c) := by
  by_cases q : p < ty
  · have := (h p q).2
    rw [bAt_in h q, nI_eq (by omega) (by omega)]
    exact ⟨fun z => ⟨q, z⟩, fun z => z.2⟩
  · rw [bAt_out (by omega)]
    refine ⟨fun z => ?_, fun z => absurd z.1 q⟩
    have := congrArg Int32.toInt z
    rw [nI_toInt (by omega)] at this
    have e : (-1 : Int32).toInt = -1 := by decide
    omega
theorem bAt_neg {p : Nat} (h : txOK F tx ty) : bAt tx ty p < 0 ↔ ty ≤ p := by
  by_cases q : p < ty
  · have := (h p q).2
    rw [bAt_in h q]
    exact ⟨fun z => absurd z (nI_pos (by omega)), fun z => by omega⟩
  · rw [bAt_out (by omega)]
    exact ⟨fun _ => by omega, fun _ => by decide⟩
theorem rvN_le {s : Nat} (h : ∀ i, dgB F ty (s + i) = true → True) : ∀ i, (∀ j, j < i → 48 ≤ F (s + j) ∧ F (s + j) ≤ 57) → rvN F s i ≤ 999
  | 0, _ => Nat.zero_le _
  | i + 1, hd => by
    have h1 := rvN_le h i (fun j hj => hd j (by omega))
    have h2 := hd i (by omega)
    rw [rvN]
    split <;> omega
end TOKR
