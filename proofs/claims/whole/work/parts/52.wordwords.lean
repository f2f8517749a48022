/-! spelling: the packed word against the letters -/
section SPELL
def pN (F : Nat → Nat) (s : Nat) : Nat → Nat
  | 0 => 0
  | i + 1 => 256 * pN F s i + F (s + i)
theorem adL_nL {a c : Nat} (h0 : 1 ≤ c) (h : c < 256) : adL (nL a) c = nL (256 * a + c) := by
  have e : (nI c).toInt64 = nL c := nI_l (by omega)
  unfold adL
  rw [if_neg (by omega), e]
  show (256 : Int64) * Int64.ofNat a + Int64.ofNat c = Int64.ofNat (256 * a + c)
  rw [Int64.ofNat_add, Int64.ofNat_mul]
  rfl
theorem pkL_pN {F : Nat → Nat} {s : Nat} : ∀ d, (∀ j, j < d → 1 ≤ F (s + j) ∧ F (s + j) < 256) → pkL F s d = nL (pN F s (min d 7))
  | 0, _ => rfl
  | d + 1, h => by
    have ih := pkL_pN d (fun j hj => h j (by omega))
    have h1 := h d (by omega)
    rw [pkL]
    by_cases q : d < 7
    · rw [if_pos q, ih, adL_nL h1.1 h1.2, show min d 7 = d by omega, show min (d + 1) 7 = d + 1 by omega]; rfl
    · rw [if_neg q, ih, show min d 7 = 7 by omega, show min (d + 1) 7 = 7 by omega]
theorem pN_lt {F : Nat → Nat} {s : Nat} : ∀ n, (∀ j, j < n → F (s + j) < 256) → pN F s n < 256 ^ n
  | 0, _ => (by decide : (0:Nat) < 1)
  | n + 1, h => by
    have ih := pN_lt n (fun j hj => h j (by omega))
    have h1 := h n (by omega)
    have e : 256 ^ (n + 1) = 256 * 256 ^ n := by rw [Nat.pow_succ, Nat.mul_comm]
    rw [pN, e]; omega
theorem pN_ge {F : Nat → Nat} {s : Nat} : ∀ n, (∀ j, j < n + 1 → 1 ≤ F (s + j)) → 256 ^ n ≤ pN F s (n + 1)
  | 0, h => by
    have h1 := h 0 (by omega)
    show 1 ≤ 256 * 0 + F (s + 0)
    omega
  | n + 1, h => by
    have ih := pN_ge n (fun j hj => h j (by omega))
    have e : 256 ^ (n + 1) = 256 * 256 ^ n := by rw [Nat.pow_succ, Nat.mul_comm]
    rw [pN, e]; omega
theorem pN_inj {F G : Nat → Nat} {s t : Nat} : ∀ n, (∀ j, j < n → F (s + j) < 256) → (∀ j, j < n → G (t + j) < 256) → (pN F s n = pN G t n ↔ ∀ j, j < n → F (s + j) = G (t + j))
  | 0, _, _ => ⟨fun _ j hj => absurd hj (Nat.not_lt_zero _), fun _ => rfl⟩
  | n + 1, h, g => by
    have ih := pN_inj n (fun j hj => h j (by omega)) (fun j hj => g j (by omega))
    have h1 := h n (by omega)
    have g1 := g n (by omega)
    rw [pN, pN]
    constructor
    · intro q j hj
      have q1 : pN F s n = pN G t n := by omega
      have q2 : F (s + n) = G (t + n) := by omega
      by_cases e : j = n
      · subst e; exact q2
      · exact ih.1 q1 j (by omega)
    · intro q
      rw [ih.2 (fun j hj => q j (by omega)), q n (by omega)]
theorem pN_len {F G : Nat → Nat} {s t m n : Nat} (hF : ∀ j, j < m → F (s + j) < 256) (hG : ∀ j, j < n → 1 ≤ G (t + j)) (hmn : m < n) : ¬ pN F s m = pN G t n := by
  obtain ⟨k, rfl⟩ : ∃ k, n = k + 1 := ⟨n - 1, by omega⟩
  have h1 := pN_lt m hF
  have h2 := pN_ge k hG
  have h3 : 256 ^ m ≤ 256 ^ k := Nat.pow_le_pow_right (by decide) (by omega)
  omega
/-- the ten words' letters -/
def wNat : List (List Nat) := [[115, 111, 114, 116], [104, 111, 117, 115, 101], [114, 111, 111, 102], [98, 111, 117, 110, 100], [119, 105, 110, 100], [110, 111, 110, 101], [114, 105, 103, 104, 116], [100, 111, 119, 110], [108, 101, 102, 116], [117, 112]]
def wbN (i j : Nat) : Nat := (wNat.getD i []).getD j 0
theorem wbN_all : ∀ i : Fin 10, ∀ j : Fin 5, j.val < wlN i.val → wbI i.val j.val = nI (wbN i.val j.val) ∧ 1 ≤ wbN i.val j.val ∧ wbN i.val j.val < 256 := by decide +kernel
theorem wbN_ok {i j : Nat} (hi : i < 10) (hj : j < wlN i) : wbI i j = nI (wbN i j) ∧ 1 ≤ wbN i j ∧ wbN i j < 256 := wbN_all ⟨i, hi⟩ ⟨j, by have := wl_5 hi; omega⟩ hj
theorem wl_all1 : ∀ i : Fin 10, 1 ≤ wlN i.val := by decide +kernel
theorem eqN_iff {F : Nat → Nat} {s i : Nat} (hi : i < 10) : ∀ n, n ≤ wlN i → (∀ j, j < n → F (s + j) < 256) → (eqN F s i n = true ↔ ∀ j, j < n → F (s + j) = wbN i (0 + j))
  | 0, _, _ => ⟨fun _ j hj => absurd hj (Nat.not_lt_zero _), fun _ => rfl⟩
  | n + 1, hn, h => by
    have ih := eqN_iff hi n (by omega) (fun j hj => h j (by omega))
    have h1 := h n (by omega)
    obtain ⟨w1, w2, w3⟩ := wbN_ok hi (show n < wlN i by omega)
    rw [eqN, Bool.and_eq_true, ih, decide_eq_true_eq, w1, nI_eq (by omega) (by omega)]
    constructor
    · rintro ⟨q1, q2⟩ j hj
      by_cases e : j = n
      · subst e; rw [Nat.zero_add]; exact q2.symm
      · exact q1 j (by omega)
    · intro q
      refine ⟨fun j hj => q j (by omega), ?_⟩
      have := q n (by omega)
      rw [Nat.zero_add] at this
      exact this.symm
theorem sp_pN {F : Nat → Nat} {s d i : Nat} (hi : i < 10) (h : ∀ j, j < d → 1 ≤ F (s + j) ∧ F (s + j) < 256) : pN F s (min d 7) = pN (wbN i) 0 (wlN i) ↔ spB F s d i = true := by
  have w5 := wl_5 hi
  have hw : ∀ j, j < wlN i → 1 ≤ wbN i (0 + j) ∧ wbN i (0 + j) < 256 := fun j hj => by rw [Nat.zero_add]; exact (wbN_ok hi hj).2
  unfold spB
  rw [Bool.and_eq_true, decide_eq_true_eq]
  by_cases e : wlN i = d
  · subst e
    rw [show min (wlN i) 7 = wlN i by omega, pN_inj _ (fun j hj => (h j hj).2) (fun j hj => (hw j hj).2), eqN_iff hi _ (Nat.le_refl _) (fun j hj => (h j hj).2)]
    exact ⟨fun q => ⟨rfl, q⟩, fun q => q.2⟩
  · refine ⟨fun q => ?_, fun q => absurd q.1 e⟩
    exfalso
    by_cases z : min d 7 < wlN i
    · exact pN_len (fun j hj => (h j (by omega)).2) (fun j hj => (hw j hj).1) z q
    · exact pN_len (F := wbN i) (G := F) (s := 0) (t := s) (fun j hj => (hw j hj).2) (fun j hj => (h j (by omega)).1) (show wlN i < min d 7 by omega) q.symm
theorem pN7 {F : Nat → Nat} {s d : Nat} (h : ∀ j, j < d → 1 ≤ F (s + j) ∧ F (s + j) < 256) : pN F s (min d 7) < 2 ^ 63 := by
  have h1 := pN_lt (F := F) (s := s) (min d 7) (fun j hj => (h j (by omega)).2)
  have h2 : 256 ^ (min d 7) ≤ 256 ^ 7 := Nat.pow_le_pow_right (by decide) (by omega)
  have h3 : (256 : Nat) ^ 7 < 2 ^ 63 := by decide
  omega
theorem pW_lt : ∀ i : Fin 10, pN (wbN i.val) 0 (wlN i.val) < 2 ^ 63 := by decide +kernel
theorem sp_nm {F : Nat → Nat} {s d i : Nat} {v : Int64} (hi : i < 10) (hv : v = nL (pN (wbN i) 0 (wlN i))) (h : ∀ j, j < d → 1 ≤ F (s + j) ∧ F (s + j) < 256) : pkL F s d = v ↔ spB F s d i = true := by
  subst hv
  rw [pkL_pN d h, ← sp_pN hi h]
  exact pk_lEQ (pN7 h) (pW_lt ⟨i, hi⟩)
theorem runE_all {P : Nat → Bool} : ∀ (d p q : Nat), p ≤ q → q < runE P d p → P q = true
  | 0, p, q, h1, h2 => by rw [runE] at h2; omega
  | d + 1, p, q, h1, h2 => by
    rw [runE] at h2
    by_cases hp : P p = true
    · rw [if_pos hp] at h2
      by_cases e : q = p
      · subst e; exact hp
      · exact runE_all d (p + 1) q (by omega) h2
    · rw [if_neg hp] at h2; omega
theorem let_ok {F : Nat → Nat} {ty s : Nat} : ∀ j, j < leE F ty s - s → 1 ≤ F (s + j) ∧ F (s + j) < 256 := by
  intro j hj
  have h := of_decide_eq_true (runE_all (P := ltB F ty) (ty - s) s (s + j) (by omega) (show s + j < leE F ty s by omega))
  omega
theorem wd_wk {F : Nat → Nat} {ty s : Nat} : (wkF F ty s = 1 ∧ wdN F ty s = (-9)) ∨ ∃ c, c < 10 ∧ wkF F ty s = c + 4 ∧ wdN F ty s = nI c := by
  have h := let_ok (F := F) (ty := ty) (s := s)
  have e0 := sp_nm (i := 0) (v := nmL 115 111 114 116 0) (by decide) (by decide +kernel) h
  have e1 := sp_nm (i := 1) (v := nmL 104 111 117 115 101) (by decide) (by decide +kernel) h
  have e2 := sp_nm (i := 2) (v := nmL 114 111 111 102 0) (by decide) (by decide +kernel) h
  have e3 := sp_nm (i := 3) (v := nmL 98 111 117 110 100) (by decide) (by decide +kernel) h
  have e4 := sp_nm (i := 4) (v := nmL 119 105 110 100 0) (by decide) (by decide +kernel) h
  have e5 := sp_nm (i := 5) (v := nmL 110 111 110 101 0) (by decide) (by decide +kernel) h
  have e6 := sp_nm (i := 6) (v := nmL 114 105 103 104 116) (by decide) (by decide +kernel) h
  have e7 := sp_nm (i := 7) (v := nmL 100 111 119 110 0) (by decide) (by decide +kernel) h
  have e8 := sp_nm (i := 8) (v := nmL 108 101 102 116 0) (by decide) (by decide +kernel) h
  have e9 := sp_nm (i := 9) (v := nmL 117 112 0 0 0) (by decide) (by decide +kernel) h
  unfold wkF wdN wdO
  simp only [e0, e1, e2, e3, e4, e5, e6, e7, e8, e9]
  by_cases h0 : spB F s (leE F ty s - s) 0 = true
  · exact Or.inr ⟨0, by decide, by rw [if_pos h0], by rw [if_pos h0]; rfl⟩
  rw [if_neg h0, if_neg h0]
  by_cases h1 : spB F s (leE F ty s - s) 1 = true
  · exact Or.inr ⟨1, by decide, by rw [if_pos h1], by rw [if_pos h1]; rfl⟩
  rw [if_neg h1, if_neg h1]
  by_cases h2 : spB F s (leE F ty s - s) 2 = true
  · exact Or.inr ⟨2, by decide, by rw [if_pos h2], by rw [if_pos h2]; rfl⟩
  rw [if_neg h2, if_neg h2]
  by_cases h3 : spB F s (leE F ty s - s) 3 = true
  · exact Or.inr ⟨3, by decide, by rw [if_pos h3], by rw [if_pos h3]; rfl⟩
  rw [if_neg h3, if_neg h3]
  by_cases h4 : spB F s (leE F ty s - s) 4 = true
  · exact Or.inr ⟨4, by decide, by rw [if_pos h4], by rw [if_pos h4]; rfl⟩
  rw [if_neg h4, if_neg h4]
  by_cases h5 : spB F s (leE F ty s - s) 5 = true
  · exact Or.inr ⟨5, by decide, by rw [if_pos h5], by rw [if_pos h5]; rfl⟩
  rw [if_neg h5, if_neg h5]
  by_cases h6 : spB F s (leE F ty s - s) 6 = true
  · exact Or.inr ⟨6, by decide, by rw [if_pos h6], by rw [if_pos h6]; rfl⟩
  rw [if_neg h6, if_neg h6]
  by_cases h7 : spB F s (leE F ty s - s) 7 = true
  · exact Or.inr ⟨7, by decide, by rw [if_pos h7], by rw [if_pos h7]; rfl⟩
  rw [if_neg h7, if_neg h7]
  by_cases h8 : spB F s (leE F ty s - s) 8 = true
  · exact Or.inr ⟨8, by decide, by rw [if_pos h8], by rw [if_pos h8]; rfl⟩
  rw [if_neg h8, if_neg h8]
  by_cases h9 : spB F s (leE F ty s - s) 9 = true
  · exact Or.inr ⟨9, by decide, by rw [if_pos h9], by rw [if_pos h9]; rfl⟩
  rw [if_neg h9, if_neg h9]
  exact Or.inl ⟨rfl, rfl⟩
end SPELL
/-- a token's kind as both sides have it -/
def tkCase (F : Nat → Nat) (ty s : Nat) : Prop := (ckN F ty s = 0 ∧ tkK F ty s = 0) ∨ (ckN F ty s = 1 ∧ tkK F ty s = 4) ∨ (ckN F ty s = 2 ∧ tkK F ty s = 3) ∨ (ckN F ty s = 3 ∧ tkK F ty s = 2 ∧ cvN F ty s = nuN F ty s ∧ nuN F ty s ≤ 99) ∨ ∃ c, c < 10 ∧ ckN F ty s = c + 4 ∧ tkK F ty s = 1 ∧ wdN F ty s = nI c
theorem tk_case {F : Nat → Nat} {ty s : Nat} : tkCase F ty s := by
  unfold tkCase
  by_cases h0 : ty ≤ s
  · exact Or.inl ⟨if_pos h0, if_pos h0⟩
  by_cases h1 : ltB F ty s = true
  · have ec : ckN F ty s = wkF F ty s := by rw [ckN, if_neg h0, if_pos h1]
    have et : tkK F ty s = if wdN F ty s = (-9) then 4 else 1 := by rw [tkK, if_neg h0, if_pos h1]
    rcases wd_wk (F := F) (ty := ty) (s := s) with ⟨q1, q2⟩ | ⟨c, hc, q1, q2⟩
    · exact Or.inr (Or.inl ⟨ec.trans q1, et.trans (if_pos q2)⟩)
    · exact Or.inr (Or.inr (Or.inr (Or.inr ⟨c, hc, ec.trans q1, et.trans (if_neg (by rw [q2]; exact nI_ne9 (by omega))), q2⟩)))
  by_cases h2 : dgB F ty s = true
  · have ec : ckN F ty s = nkN F ty s := by rw [ckN, if_neg h0, if_neg h1, if_pos h2]
    have et : tkK F ty s = if 99 < nuN F ty s ∨ (F s = 48 ∧ 1 < dgE F ty s - s) then 4 else 2 := by rw [tkK, if_neg h0, if_neg h1, if_pos h2]
    by_cases q : 99 < nuN F ty s ∨ (F s = 48 ∧ 1 < dgE F ty s - s)
    · exact Or.inr (Or.inl ⟨ec.trans (if_pos q), et.trans (if_pos q)⟩)
    · refine Or.inr (Or.inr (Or.inr (Or.inl ⟨ec.trans (if_neg q), et.trans (if_neg q), ?_, ?_⟩)))
      · have : nuN F ty s ≤ 99 := Nat.le_of_not_lt (fun z => q (Or.inl z))
        rw [cvN, if_pos h2]; omega
      · exact Nat.le_of_not_lt (fun z => q (Or.inl z))
  have ec : ckN F ty s = if F s = 59 then 2 else 1 := by rw [ckN, if_neg h0, if_neg h1, if_neg h2]
  have et : tkK F ty s = if F s = 59 then 3 else 4 := by rw [tkK, if_neg h0, if_neg h1, if_neg h2]
  by_cases q : F s = 59
  · exact Or.inr (Or.inr (Or.inl ⟨ec.trans (if_pos q), et.trans (if_pos q)⟩))
  · exact Or.inr (Or.inl ⟨ec.trans (if_neg q), et.trans (if_neg q)⟩)
