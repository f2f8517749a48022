/-! fires, in the reference's words -/
theorem nI_ne9 {t : Nat} (h : t < 2147483648) : ¬ nI t = (-9) := by
  intro q
  have q2 := congrArg Int32.toInt q
  rw [nI_toInt h] at q2
  have h9 : (-9 : Int32).toInt = -9 := by decide
  omega
def anyN (P : Nat → Bool) : Nat → Bool
  | 0 => false
  | i + 1 => anyN P i || P i
theorem anyN_iff (P : Nat → Bool) : ∀ n, anyN P n = true ↔ ∃ a, a < n ∧ P a = true
  | 0 => by simp [anyN]
  | n + 1 => by
    rw [anyN, Bool.or_eq_true, anyN_iff P n]
    constructor
    · rintro (⟨a, h1, h2⟩ | h)
      · exact ⟨a, by omega, h2⟩
      · exact ⟨n, by omega, h⟩
    · rintro ⟨a, h1, h2⟩
      by_cases q : a = n
      · subst q; exact Or.inr h2
      · exact Or.inl ⟨a, by omega, h2⟩
def fCb (tr xs ys : Nat → Int32) (n : Nat) (w : Int32) (F : Nat → Int32) (mi b : Nat) : Bool :=
  decide (F b = (-9)) && (decide (b < n) && anyN (fun a => decide (F a = nI mi) && (decide (tr a = tr b) && (tchb xs ys a b || thrb xs ys a b w))) n)
/-- since when each house burns, after so many minutes -/
def fS (tr xs ys : Nat → Int32) (n : Nat) (w : Int32) (a0 : Nat) : Nat → Nat → Int32
  | 0 => fun h => if h = a0 then 0 else (-9)
  | mi + 1 => fun b => if fCb tr xs ys n w (fS tr xs ys n w a0 mi) mi b = true then nI (mi + 1) else fS tr xs ys n w a0 mi b
theorem fS_0 (tr xs ys : Nat → Int32) (n : Nat) (w : Int32) (a0 h : Nat) : fS tr xs ys n w a0 0 h = if h = a0 then 0 else (-9) := rfl
theorem fS_1 (tr xs ys : Nat → Int32) (n : Nat) (w : Int32) (a0 mi b : Nat) : fS tr xs ys n w a0 (mi + 1) b = if fCb tr xs ys n w (fS tr xs ys n w a0 mi) mi b = true then nI (mi + 1) else fS tr xs ys n w a0 mi b := rfl
section FIRE
variable {tr xs ys : Nat → Int32} {n : Nat} {w : Int32} {a0 : Nat}
theorem fCb_iff {F : Nat → Int32} {mi b : Nat} : fCb tr xs ys n w F mi b = true ↔ F b = (-9) ∧ b < n ∧ ∃ a, a < n ∧ F a = nI mi ∧ tr a = tr b ∧ (tchb xs ys a b || thrb xs ys a b w) = true := by
  unfold fCb
  rw [Bool.and_eq_true, Bool.and_eq_true, anyN_iff, decide_eq_true_eq, decide_eq_true_eq]
  refine and_congr_right (fun _ => and_congr_right (fun _ => exists_congr (fun a => and_congr_right (fun _ => ?_))))
  rw [Bool.and_eq_true, Bool.and_eq_true, decide_eq_true_eq, decide_eq_true_eq]
theorem fS_val : ∀ (mi h : Nat), fS tr xs ys n w a0 mi h = (-9) ∨ ∃ t, t ≤ mi ∧ fS tr xs ys n w a0 mi h = nI t
  | 0, h => by
    rw [fS_0]
    by_cases q : h = a0
    · exact Or.inr ⟨0, Nat.le_refl 0, (if_pos q).trans nI_0.symm⟩
    · exact Or.inl (if_neg q)
  | mi + 1, h => by
    rw [fS_1]
    by_cases q : fCb tr xs ys n w (fS tr xs ys n w a0 mi) mi h = true
    · exact Or.inr ⟨mi + 1, Nat.le_refl _, if_pos q⟩
    · rw [if_neg q]
      rcases fS_val mi h with e | ⟨t, h1, h2⟩
      · exact Or.inl e
      · exact Or.inr ⟨t, by omega, h2⟩
theorem fS_mono {mi h : Nat} (q : ¬ fS tr xs ys n w a0 mi h = (-9)) : fS tr xs ys n w a0 (mi + 1) h = fS tr xs ys n w a0 mi h := by
  rw [fS_1, if_neg (fun z => q (fCb_iff.1 z).1)]
theorem fS_mono2 {mi h : Nat} (q : ¬ fS tr xs ys n w a0 mi h = (-9)) : ∀ k, fS tr xs ys n w a0 (mi + k) h = fS tr xs ys n w a0 mi h
  | 0 => rfl
  | k + 1 => by
    have e := fS_mono2 q k
    rw [show mi + (k + 1) = (mi + k) + 1 by omega, fS_mono (by rw [e]; exact q), e]
theorem fS_al (ha : a0 < n) {mi h : Nat} (hm : mi < 1000) (q : ¬ fS tr xs ys n w a0 mi h = (-9)) : tr h = tr a0 ∧ h < n := by
  induction mi generalizing h with
  | zero =>
    rw [fS_0] at q
    by_cases e : h = a0
    · subst e; exact ⟨rfl, ha⟩
    · exact absurd (if_neg e) q
  | succ mi ih =>
    rw [fS_1] at q
    by_cases z : fCb tr xs ys n w (fS tr xs ys n w a0 mi) mi h = true
    · obtain ⟨h1, h2, a, h3, h4, h5, -⟩ := fCb_iff.1 z
      have e : ¬ fS tr xs ys n w a0 mi a = (-9) := by rw [h4]; exact nI_ne9 (by omega)
      exact ⟨h5.symm.trans (ih (by omega) e).1, h2⟩
    · rw [if_neg z] at q
      exact ih (by omega) q
/-- what touches a house that caught before has caught -/
theorem fS_cl {mi a b t : Nat} (hm : mi < 1000) (h1 : fS tr xs ys n w a0 mi a = nI t) (h2 : t < mi) (h3 : tr a = tr b) (h4 : (tchb xs ys a b || thrb xs ys a b w) = true) (ha : a < n) (hb : b < n) : ¬ fS tr xs ys n w a0 mi b = (-9) := by
  induction mi with
  | zero => omega
  | succ mi ih =>
    by_cases e : fS tr xs ys n w a0 mi b = (-9)
    · by_cases z : fCb tr xs ys n w (fS tr xs ys n w a0 mi) mi a = true
      · rw [fS_1, if_pos z] at h1
        have := (nI_eq (by omega) (by omega)).1 h1
        omega
      · rw [fS_1, if_neg z] at h1
        by_cases ht : t = mi
        · subst ht
          rw [fS_1, if_pos (fCb_iff.2 ⟨e, hb, a, ha, h1, h3, h4⟩)]
          exact nI_ne9 (by omega)
        · exact absurd e (ih (by omega) h1 (by omega))
    · rw [fS_mono e]; exact e
def bnow (t bu : Nat → Int32) (s0 mi a : Nat) : Bool := decide (¬ t a = (-9)) && (decide (t a < nI (mi + 1)) && decide (nI mi < t a + bu s0))
def brnN (t tr xs ys : Nat → Int32) (w : Int32) (bu : Nat → Int32) (s0 mi b a : Nat) : Bool := bnow t bu s0 mi a && (decide (tr a = tr b) && (tchb xs ys a b || thrb xs ys a b w))
theorem bnow_t {t bu : Nat → Int32} {s0 mi a : Nat} (h1 : ¬ t a = (-9)) (h2 : ¬ nI (mi + 1) ≤ t a) (h3 : ¬ t a + bu s0 ≤ nI mi) : bnow t bu s0 mi a = true := by
  unfold bnow
  rw [decide_eq_true h1, decide_eq_true (Int32.not_le.1 h2), decide_eq_true (Int32.not_le.1 h3)]; rfl
theorem bnow_f1 {t bu : Nat → Int32} {s0 mi a : Nat} (h1 : t a = (-9)) : bnow t bu s0 mi a = false := by
  unfold bnow; rw [decide_eq_false (fun q => q h1)]; rfl
theorem bnow_f2 {t bu : Nat → Int32} {s0 mi a : Nat} (h1 : nI (mi + 1) ≤ t a) : bnow t bu s0 mi a = false := by
  unfold bnow; rw [decide_eq_false (Int32.not_lt.2 h1)]; simp
theorem bnow_f3 {t bu : Nat → Int32} {s0 mi a : Nat} (h1 : t a + bu s0 ≤ nI mi) : bnow t bu s0 mi a = false := by
  unfold bnow; rw [decide_eq_false (Int32.not_lt.2 h1)]; simp
section BRN
variable {t tr xs ys bu : Nat → Int32} {w : Int32} {s0 mi b a : Nat} {is_ : Bool}
theorem brn_t1 (h : is_ = true) : (is_ || brnN t tr xs ys w bu s0 mi b a) = true := by rw [h]; rfl
theorem brn_t2 (h : bnow t bu s0 mi a = true) (h2 : tr a = tr b) (h3 : tchb xs ys a b = true ∨ thrb xs ys a b w = true) : (is_ || brnN t tr xs ys w bu s0 mi b a) = true := by
  unfold brnN; rw [h, decide_eq_true h2, Bool.or_eq_true_iff.2 h3]; simp
theorem brn_f (h : is_ = false) (h2 : bnow t bu s0 mi a = false ∨ ¬ tr a = tr b ∨ (tchb xs ys a b = false ∧ thrb xs ys a b w = false)) : (is_ || brnN t tr xs ys w bu s0 mi b a) = false := by
  unfold brnN
  rcases h2 with h2 | h2 | ⟨h2, h3⟩
  · rw [h, h2]; rfl
  · rw [h, decide_eq_false h2]; simp
  · rw [h, h2, h3]; simp
end BRN
theorem fire_beg {t : Nat → Int32} {mi : Nat} (h : ∀ h, h < 8 → t h = fS tr xs ys n w a0 mi h) : ∀ h, h < 8 → t h = (if h < 0 then fS tr xs ys n w a0 (mi + 1) h else fS tr xs ys n w a0 mi h) := fun j hj => by rw [if_neg (Nat.not_lt_zero j)]; exact h j hj
theorem fire_end {t : Nat → Int32} {mi b : Nat} (ha : a0 < n) (hm : mi < 900) (h : ∀ h, h < 8 → t h = (if h < b then fS tr xs ys n w a0 (mi + 1) h else fS tr xs ys n w a0 mi h)) {j : Nat} (hj : j < 8) (hb : n ≤ b) : t j = fS tr xs ys n w a0 (mi + 1) j := by
  rw [h j hj]
  by_cases q : j < b
  · rw [if_pos q]
  · rw [if_neg q]
    by_cases e : fS tr xs ys n w a0 mi j = (-9)
    · rw [fS_1, if_neg (fun z => by have := (fCb_iff.1 z).2.1; omega)]
    · rw [fS_mono e]
theorem fire_al {t : Nat → Int32} {mi b s0 a : Nat} (ha : a0 < n) (hs0 : tr a0 = nI s0) (hm : mi < 900) (h : ∀ h, h < 8 → t h = (if h < b then fS tr xs ys n w a0 (mi + 1) h else fS tr xs ys n w a0 mi h)) (hj : a < 8) (q : ¬ t a = (-9)) : tr a = nI s0 := by
  rw [h a hj] at q
  by_cases z : a < b
  · rw [if_pos z] at q; exact (fS_al ha (by omega) q).1.trans hs0
  · rw [if_neg z] at q; exact (fS_al ha (by omega) q).1.trans hs0
theorem fire_al0 {t : Nat → Int32} {s0 a : Nat} (ha : a0 < n) (hs0 : tr a0 = nI s0) (h : t a = fS tr xs ys n w a0 98 a) (q : ¬ t a = (-9)) : tr a = nI s0 := by
  rw [h] at q; exact (fS_al ha (by omega) q).1.trans hs0
theorem fire_upd {t bu : Nat → Int32} {mi b s0 b0 a : Nat} {is_ : Bool} {X : Int32} (hn : n ≤ 8) (hb0 : bu s0 = nI b0) (hb1 : 1 ≤ b0) (hb9 : b0 ≤ 9) (hm : mi < 98) (hb : b < n)
    (h : ∀ h, h < 8 → t h = (if h < b then fS tr xs ys n w a0 (mi + 1) h else fS tr xs ys n w a0 mi h)) (h4 : is_ = anyN (brnN t tr xs ys w bu s0 mi b) a) (ha : a = n) (hX : (t b = (-9) ∧ is_ = true ∧ X = nI (mi + 1)) ∨ ((¬ t b = (-9) ∨ is_ = false) ∧ X = t b)) :
    ∀ h, h < 8 → upd t b X h = (if h < b + 1 then fS tr xs ys n w a0 (mi + 1) h else fS tr xs ys n w a0 mi h) := by
  rw [ha] at h4
  have tb : t b = fS tr xs ys n w a0 mi b := by rw [h b (by omega), if_neg (Nat.lt_irrefl b)]
  have key : t b = (-9) → (is_ = true ↔ fCb tr xs ys n w (fS tr xs ys n w a0 mi) mi b = true) := by
    intro e
    rw [h4, anyN_iff, fCb_iff]
    have low : ∀ c, c < n → ∀ k, k ≤ mi → (t c = nI k ↔ fS tr xs ys n w a0 mi c = nI k) := by
      intro c hc k hk
      rw [h c (by omega)]
      by_cases z : c < b
      · rw [if_pos z]
        by_cases z2 : fCb tr xs ys n w (fS tr xs ys n w a0 mi) mi c = true
        · have z3 := (fCb_iff.1 z2).1
          rw [fS_1, if_pos z2, z3]
          constructor
          · intro q; have := (nI_eq (by omega) (by omega)).1 q; omega
          · intro q; exact absurd q.symm (nI_ne9 (by omega))
        · rw [fS_1, if_neg z2]
      · rw [if_neg z]
    constructor
    · rintro ⟨c, hc, hq⟩
      unfold brnN bnow at hq
      simp only [Bool.and_eq_true, decide_eq_true_eq] at hq
      obtain ⟨⟨q1, q2, q3⟩, q4, q5⟩ := hq
      have tv : ∃ k, k ≤ mi ∧ t c = nI k := by
        have v : ∃ k, k ≤ mi + 1 ∧ t c = nI k := by
          rw [h c (by omega)] at q1 ⊢
          by_cases z : c < b
          · rw [if_pos z] at q1 ⊢
            rcases fS_val (tr := tr) (xs := xs) (ys := ys) (n := n) (w := w) (a0 := a0) (mi + 1) c with z2 | ⟨k, z2, z3⟩
            · exact absurd z2 q1
            · exact ⟨k, z2, z3⟩
          · rw [if_neg z] at q1 ⊢
            rcases fS_val (tr := tr) (xs := xs) (ys := ys) (n := n) (w := w) (a0 := a0) mi c with z2 | ⟨k, z2, z3⟩
            · exact absurd z2 q1
            · exact ⟨k, by omega, z3⟩
        obtain ⟨k, k1, k2⟩ := v
        rw [k2] at q2
        have := (nI_ltI (by omega) (by omega)).1 q2
        exact ⟨k, by omega, k2⟩
      obtain ⟨k, k1, k2⟩ := tv
      have k3 := (low c hc k k1).1 k2
      refine ⟨tb.symm.trans e, hb, c, hc, ?_, q4, q5⟩
      by_cases hk : k = mi
      · rw [k3, hk]
      · exact absurd (tb.symm.trans e) (fS_cl (by omega) k3 (by omega) q4 q5 hc hb)
    · rintro ⟨q1, q2, c, hc, q3, q4, q5⟩
      refine ⟨c, hc, ?_⟩
      have k2 := (low c hc mi (Nat.le_refl mi)).2 q3
      unfold brnN bnow
      simp only [Bool.and_eq_true, decide_eq_true_eq]
      refine ⟨⟨by rw [k2]; exact nI_ne9 (by omega), by rw [k2]; exact nI_lt (by omega) (by omega), ?_⟩, q4, q5⟩
      rw [k2, hb0, nI_add]
      exact nI_lt (by omega) (by omega)
  intro j hj
  by_cases q : j = b
  · subst q
    rw [pk_us, if_pos (Nat.lt_succ_self j)]
    rcases hX with ⟨x1, x2, x3⟩ | ⟨x1, x2⟩
    · rw [fS_1, if_pos ((key x1).1 x2), x3]
    · rw [x2, tb]
      by_cases e : t j = (-9)
      · have x3 : is_ = false := x1.resolve_left (fun z => z e)
        rw [fS_1, if_neg (fun z => by have := (key e).2 z; rw [x3] at this; exact absurd this (by decide))]
      · rw [tb] at e; rw [fS_mono e]
  · rw [pk_un q, h j hj]
    by_cases z : j < b
    · rw [if_pos z, if_pos (by omega)]
    · rw [if_neg z, if_neg (by omega)]
def litB (F : Nat → Int32) (h : Nat) : Bool := !decide (F h = (-9))
theorem lit_t {t F : Nat → Int32} {i : Nat} (h : t i = F i) (q : ¬ t i = (-9)) : litB F i = true := by unfold litB; rw [← h, decide_eq_false q]; rfl
theorem lit_f {t F : Nat → Int32} {i : Nat} (h : t i = F i) (q : t i = (-9)) : ¬ litB F i = true := by unfold litB; rw [← h, decide_eq_true q]; decide
def enI (F : Nat → Int32) (b : Int32) : Nat → Int32
  | 0 => 0
  | i + 1 => if F i = (-9) then enI F b i else if enI F b i < F i + b then F i + b else enI F b i
theorem enI_n {F t : Nat → Int32} {b es : Int32} {i : Nat} (he : es = enI F b i) (h : t i = F i) (q : t i = (-9)) : es = enI F b (i + 1) := by rw [enI, ← h, if_pos q, he]
theorem enI_g {F t : Nat → Int32} {b es : Int32} {i : Nat} (he : es = enI F b i) (h : t i = F i) (q : ¬ t i = (-9)) (q2 : ¬ t i + b ≤ es) : t i + b = enI F b (i + 1) := by rw [enI, ← h, if_neg q, ← he, if_pos (Int32.not_le.1 q2)]
theorem enI_l {F t : Nat → Int32} {b es : Int32} {i : Nat} (he : es = enI F b i) (h : t i = F i) (q : ¬ t i = (-9)) (q2 : t i + b ≤ es) : es = enI F b (i + 1) := by rw [enI, ← h, if_neg q, ← he, if_neg (Int32.not_lt.2 q2)]
end FIRE
