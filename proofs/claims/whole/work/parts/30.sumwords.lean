/-! the class's sums, draws and ends -/
theorem all_mk {x : Int32} : ∀ n, 2 ^ n - 1 = mkM (fun _ => decide (x = x)) n
  | 0 => rfl
  | n + 1 => by
    have := all_mk (x := x) n
    have h2 := Nat.one_le_two_pow (n := n)
    rw [mkM, ← this, decide_eq_true rfl, if_pos rfl, Nat.pow_succ]; omega
theorem bu_nI {pr bu : Nat → Int32} {k : Nat} (hk : k ≤ 4) (hp : pOK k pr bu) (s : Int32) : ∃ x, x ≤ 9 ∧ prOf bu k s = nI x := by
  cases q : inb s k with
  | false => exact ⟨0, by omega, by rw [prOf_f q]; exact nI_0.symm⟩
  | true =>
    obtain ⟨j, hj, rfl⟩ := inb_nI (by omega) q
    obtain ⟨x, h1, h2⟩ := (hp j hj).2
    exact ⟨x, h1, by rw [prOf_t hj (by omega), h2]⟩
theorem bu_pos {pr bu : Nat → Int32} {k : Nat} (hk : k ≤ 4) (hp : pOK k pr bu) {s : Int32} (h : ¬ prOf bu k s = 0) : 0 < prOf bu k s := by
  obtain ⟨x, h1, e⟩ := bu_nI hk hp s
  rw [e] at h ⊢
  have hx : 0 < x := by
    rcases Nat.eq_zero_or_pos x with z | z
    · subst z; exact absurd nI_0 h
    · exact z
  have := nI_lt hx (show x < 2147483648 by omega)
  rw [nI_0] at this; exact this
theorem cntF_pos {xs ys rf : Nat → Int32} {n : Nat} {w : Int32} {a : Nat} (ha : a < n) : 1 ≤ cntF xs ys rf n w a := by
  have h0 : ¬ fS rf xs ys n w a 0 a = (-9) := by rw [fS_0, if_pos rfl]; decide
  have h98 := fS_mono2 h0 98
  rw [Nat.zero_add] at h98
  have hl : litB (fS rf xs ys n w a 98) a = true := by
    unfold litB; rw [h98, decide_eq_false h0]; rfl
  unfold cntF
  have h1 := cntB_up (P := litB (fS rf xs ys n w a 98)) (i := a + 1) (n - (a + 1))
  rw [show a + 1 + (n - (a + 1)) = n by omega, cntB, if_pos hl] at h1
  omega
theorem lostN_pos {xs ys rf pr bu : Nat → Int32} {n k : Nat} {w : Int32} {a : Nat} (ha : a < n) (hk : k ≤ 4) (hp : pOK k pr bu) (hb : burB bu k rf a = true) : 1 ≤ lostN xs ys rf pr bu n k w a := by
  rw [lostN, if_pos hb]
  have h1 := cntF_pos (xs := xs) (ys := ys) (rf := rf) (w := w) ha
  have h2 : 1 ≤ prN pr k (rf a) := by
    cases q : inb (rf a) k with
    | false => unfold burB at hb; rw [prOf_f q] at hb; exact absurd (of_decide_eq_true hb) (by decide)
    | true =>
      obtain ⟨j, hj, e⟩ := inb_nI (by omega) q
      obtain ⟨x, h1, h2, h3⟩ := (hp j hj).1
      unfold prN
      rw [e, prOf_t hj (by omega), h3, tnI (by omega)]; exact h1
  exact Nat.mul_le_mul h1 h2
theorem wst_c1 {L : Nat → Nat} {B : Nat → Bool} {i : Nat} {d : Int32} {mo : Nat} (h : (d, mo) = wstR L B i) (hL : B i = false → L i = 0) (h1 : mo < L i) : (nI i, L i) = wstR L B (i + 1) := by
  have hb : B i = true := by
    cases q : B i with
    | true => rfl
    | false => rw [hL q] at h1; omega
  exact wst_up h hb (if_pos (Or.inr h1)).symm (if_pos h1).symm
theorem wst_c2 {L : Nat → Nat} {B : Nat → Bool} {i : Nat} {d : Int32} {mo : Nat} (h : (d, mo) = wstR L B i) (hL : B i = true → 1 ≤ L i) (h0 : d = (-9) → mo = 0) (h1 : L i ≤ mo) : (d, mo) = wstR L B (i + 1) := by
  cases q : B i with
  | false => exact wst_no h q
  | true =>
    have := hL q
    exact wst_up h q (if_neg (fun z => z.elim (fun z => by have := h0 z; omega) (fun z => by omega))).symm (if_neg (by omega)).symm
theorem lostN_0 {xs ys rf pr bu : Nat → Int32} {n k : Nat} {w : Int32} {a : Nat} (h : burB bu k rf a = false) : lostN xs ys rf pr bu n k w a = 0 := by rw [lostN, if_neg (bfne h)]
theorem yr_sw (a b c : Int32) : a + (b - c) = a - c + b := by
  rw [Int32.sub_eq_add_neg, Int32.sub_eq_add_neg, Int32.add_assoc, Int32.add_comm (-c) b]
theorem en_last {F : Nat → Int32} {n ln x : Nat} (hF : ∀ j, F j = (-9) ∨ ∃ t, t ≤ 98 ∧ F j = nI t) (hl : lastP F n ln) (hx : x ≤ 9) (h1 : 1 ≤ x) : enI F (nI x) n = nI (ln + x) := by
  obtain ⟨⟨g, hg, eg⟩, hmax, hl8⟩ := hl
  have key : ∀ i, i ≤ n → ∃ mm, enI F (nI x) i = nI mm ∧ mm ≤ ln + x ∧ ∀ j, j < i → ∀ t, t < 2147483648 → F j = nI t → t + x ≤ mm := by
    intro i
    induction i with
    | zero => intro _; exact ⟨0, nI_0.symm, Nat.zero_le _, fun j hj => absurd hj (Nat.not_lt_zero _)⟩
    | succ i ih =>
      intro hi
      obtain ⟨mm, e, h2, h3⟩ := ih (by omega)
      rw [enI, e]
      rcases hF i with q | ⟨t, ht, q⟩
      · rw [if_pos q]
        refine ⟨mm, rfl, h2, fun j hj t ht e2 => ?_⟩
        by_cases z : j = i
        · subst z; rw [q] at e2; exact absurd e2.symm (nI_ne9 ht)
        · exact h3 j (by omega) t ht e2
      · have htl := hmax i (by omega) t (by omega) q
        rw [q, if_neg (nI_ne9 (by omega)), nI_add]
        by_cases z : mm < t + x
        · rw [if_pos (nI_lt z (by omega))]
          refine ⟨t + x, rfl, by omega, fun j hj t2 ht2 e2 => ?_⟩
          by_cases z2 : j = i
          · subst z2; rw [q] at e2; have := (nI_eq (by omega) ht2).1 e2; omega
          · have := h3 j (by omega) t2 ht2 e2; omega
        · rw [if_neg (nI_nlt (by omega) (by omega))]
          refine ⟨mm, rfl, h2, fun j hj t2 ht2 e2 => ?_⟩
          by_cases z2 : j = i
          · subst z2; rw [q] at e2; have := (nI_eq (by omega) ht2).1 e2; omega
          · exact h3 j (by omega) t2 ht2 e2
  obtain ⟨mm, e, h2, h3⟩ := key n (Nat.le_refl _)
  have := h3 g hg ln (by omega) eg
  rw [e, show mm = ln + x by omega]
def btF (bt : Nat → Nat) (v : Int64) (ty : Nat) (m_ : Int32) : Nat → Nat := if inr m_ 1 8 = true then (if ty + tn m_ ≤ 300 then apB bt v ty (tn m_) (tn m_) else bt) else bt
theorem pay_bit {n : Nat} {xs ys : Nat → Int32} (hc : cOK n xs ys) {h i : Nat} (hh : h < n) (hi : i < n) : (mkM (fun g => arb xs ys h 1 g) n).testBit i = tchb xs ys h i := by
  rw [mkM_tb, decide_eq_true hi, Bool.true_and, arb_tch hc hh hi]
theorem sw2 {v : Int32} (h : inr v 0 2 = true) (h0 : ¬ v = 0) (h1 : ¬ v = 1) : v = 2 := by
  obtain ⟨p1, p2⟩ := of_decide_eq_true h
  obtain ⟨j, hj, rfl⟩ := inb_nI (n := 3) (by omega) (show inb v 3 = true from decide_eq_true ⟨p1, by
    rw [Int32.lt_iff_toInt_lt]; rw [Int32.le_iff_toInt_le] at p2
    have e1 : (2 : Int32).toInt = 2 := by decide
    have e2 : (nI 3).toInt = 3 := by decide
    omega⟩)
  match j, hj with
  | 0, _ => exact absurd rfl h0
  | 1, _ => exact absurd rfl h1
  | 2, _ => rfl
