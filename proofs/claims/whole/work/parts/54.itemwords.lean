/-! what the class's reader asks of a token -/
def nuR (k v : Nat) (lo hi : Int32) : Int32 := if k = 3 ∧ inr (nI v) lo hi = true then nI v else (-9)
def inB (lo hi : Int32) (a b : Nat) : Prop := ∀ v, v ≤ 100 → (inr (nI v) lo hi = true ↔ a ≤ v ∧ v < b)
theorem inB_199a : ∀ v : Fin 101, (inr (nI v.val) 1 99 = true ↔ 1 ≤ v.val ∧ v.val < 100) := by decide +kernel
theorem inB_199 : inB 1 99 1 100 := fun v hv => inB_199a ⟨v, by omega⟩
theorem inB_09a : ∀ v : Fin 101, (inr (nI v.val) 0 9 = true ↔ 0 ≤ v.val ∧ v.val < 10) := by decide +kernel
theorem inB_09 : inB 0 9 0 10 := fun v hv => inB_09a ⟨v, by omega⟩
theorem inB_07a : ∀ v : Fin 101, (inr (nI v.val) 0 7 = true ↔ 0 ≤ v.val ∧ v.val < 8) := by decide +kernel
theorem inB_07 : inB 0 7 0 8 := fun v hv => inB_07a ⟨v, by omega⟩
theorem inB_n {n : Nat} (hn : n ≤ 8) : inB 0 (nI n - 1) 0 n := fun v hv => by
  rw [inr_inb hn]
  constructor
  · intro q
    exact ⟨Nat.zero_le _, (nI_ltI (by omega) (by omega)).1 (of_decide_eq_true q).2⟩
  · intro q
    exact inb_t (by omega) q.2
section NUM
variable {kd vl : Nat → Nat} {j a b : Nat} {lo hi x : Int32}
theorem num_no (hin : inB lo hi a b) (hv : vl j ≤ 100) (ex : x = nuR (kd j) (vl j) lo hi) (c : x = (-9)) : okN kd vl j a b = false := by
  refine decide_eq_false (fun q => ?_)
  have e : nuR (kd j) (vl j) lo hi = nI (vl j) := if_pos ⟨q.1, (hin _ hv).2 q.2⟩
  exact nI_ne9 (by omega) (e.symm.trans (ex.symm.trans c))
theorem num_yes (hin : inB lo hi a b) (hv : vl j ≤ 100) (ex : x = nuR (kd j) (vl j) lo hi) (c : ¬ x = (-9)) : okN kd vl j a b = true ∧ x = nI (vl j) := by
  by_cases q : kd j = 3 ∧ inr (nI (vl j)) lo hi = true
  · exact ⟨decide_eq_true ⟨q.1, (hin _ hv).1 q.2⟩, ex.trans (if_pos q)⟩
  · exact absurd (ex.trans (if_neg q)) c
end NUM
def tokC (kd vl sp_ : Nat → Nat) (tz : Nat) (tkk tkv tks : Nat → Nat) : Prop := (∀ j, j < tz → tkk j = kd j ∧ tkv j = vl j ∧ tks j = sp_ j) ∧ tz ≤ 301 ∧ (∀ j, j < tz → ¬ kd j = 0 → j + 1 < tz) ∧ (∀ j, kd j ≤ 13) ∧ ∀ j, vl j ≤ 100
def rdQ (kd : Nat → Nat) (r : Bool × DT × Nat) (rr : Bool) (ta2 tz n k wn : Nat) (wt : Bool) (xs ys rf bo pr bu : Nat → Int32) : Prop := rr = r.1 ∧ ta2 = r.2.2 ∧ ta2 < tz ∧ (r.1 = true → kd ta2 = 2) ∧ tR r.2.1 n k wn wt xs ys rf bo pr bu
section TRE
variable {d : DT} {n k wn : Nat} {wt : Bool} {xs ys rf bo pr bu : Nat → Int32}
theorem tR_eq (h : tR d n k wn wt xs ys rf bo pr bu) : d.1.1 = n ∧ d.1.2.1 = k ∧ d.1.2.2.1 = wn ∧ d.1.2.2.2 = wt := by rw [h.1]; exact ⟨rfl, rfl, rfl, rfl⟩
theorem tR_le (h : tR d n k wn wt xs ys rf bo pr bu) (hd : dOK d) : n ≤ 8 ∧ k ≤ 4 := by
  obtain ⟨e1, e2, -, -⟩ := tR_eq h
  have h1 := hd.1
  have h2 := hd.2.1
  omega
theorem fstB_lt {x y : Int32} {m : Nat} (hn : n ≤ 8) (h : fstB xs ys x y n m) : m < 256 := by
  rcases h with ⟨rfl, -⟩ | ⟨i, hi, rfl, -, -⟩
  · decide
  · have : 2 ^ i ≤ 2 ^ 7 := Nat.pow_le_pow_right (by decide) (by omega)
    omega
theorem fst_at {a b m : Nat} (h : tR d n k wn wt xs ys rf bo pr bu) (hd : dOK d) (ha : a < 2147483648) (hb : b < 2147483648) (hf : fstB xs ys (nI a) (nI b) n m) (hm : ¬ m = 0) : hasAt d a b = true := by
  rcases hf with ⟨e, -⟩ | ⟨i, hi, -, h3, -⟩
  · exact absurd e hm
  · rw [← hasAt_any h hd ha hb]
    exact (anyN_iff _ _).2 ⟨i, hi, decide_eq_true h3⟩
theorem fst_no {a b m : Nat} (h : tR d n k wn wt xs ys rf bo pr bu) (hd : dOK d) (ha : a < 2147483648) (hb : b < 2147483648) (hf : fstB xs ys (nI a) (nI b) n m) (hm : m = 0) : hasAt d a b = false := by
  rcases hf with ⟨-, h2⟩ | ⟨i, hi, e, -, -⟩
  · cases hq : hasAt d a b with
    | false => rfl
    | true =>
      rw [← hasAt_any h hd ha hb] at hq
      obtain ⟨i, hi, q⟩ := (anyN_iff _ _).1 hq
      exact absurd (of_decide_eq_true q) (h2 i hi)
  · have : 0 < 2 ^ i := Nat.two_pow_pos i
    omega
theorem bnd_e {a s : Nat} (h : tR d n k wn wt xs ys rf bo pr bu) (ha : a < n) (c : ¬ bo a = (-9) ∧ ¬ bo a = nI s) : ¬ (d.2.1.2.2.2 a = (-9) ∨ d.2.1.2.2.2 a = nI s) := by
  rw [← (h.2.1 a ha).2.2.2]; exact fun q => q.elim c.1 c.2
theorem bnd_n {a s : Nat} (h : tR d n k wn wt xs ys rf bo pr bu) (ha : a < n) (c : ¬ (¬ bo a = (-9) ∧ ¬ bo a = nI s)) : d.2.1.2.2.2 a = (-9) ∨ d.2.1.2.2.2 a = nI s := by
  rw [← (h.2.1 a ha).2.2.2]
  by_cases q : bo a = (-9)
  · exact Or.inl q
  · by_cases q2 : bo a = nI s
    · exact Or.inr q2
    · exact absurd ⟨q, q2⟩ c
theorem bo_n {a : Nat} (h : tR d n k wn wt xs ys rf bo pr bu) (ha : a < n) (c : ¬ bo a = (-9)) : ¬ d.2.1.2.2.2 a = (-9) := by rw [← (h.2.1 a ha).2.2.2]; exact c
theorem bo_e {a : Nat} (h : tR d n k wn wt xs ys rf bo pr bu) (ha : a < n) (c : bo a = (-9)) : d.2.1.2.2.2 a = (-9) := by rw [← (h.2.1 a ha).2.2.2]; exact c
end TRE
section WND
variable {q : Nat} {w : Int32}
theorem wnd_t (hq : q ≤ 13) (ew : w = nI q - 9) : w.toInt = (q : Int) - 9 := by rw [ew]; exact pk_sub_toInt (a := q) (b := 9) (by omega) (by omega)
theorem wnd_lo (hq : q ≤ 13) (ew : w = nI q - 9) (c : w < 0) : ¬ (9 ≤ q ∧ q ≤ 13) := by
  have e := wnd_t hq ew
  rw [Int32.lt_iff_toInt_lt, e] at c
  have h0 : (0 : Int32).toInt = 0 := rfl
  omega
theorem wnd_hi (hq : q ≤ 13) (ew : w = nI q - 9) (c : 4 < w) : ¬ (9 ≤ q ∧ q ≤ 13) := by
  have e := wnd_t hq ew
  rw [Int32.lt_iff_toInt_lt, e] at c
  have h0 : (4 : Int32).toInt = 4 := rfl
  omega
theorem wnd_in (hq : q ≤ 13) (ew : w = nI q - 9) (c1 : ¬ w < 0) (_ : ¬ 4 < w) : 9 ≤ q ∧ q ≤ 13 := by
  have e := wnd_t hq ew
  rw [Int32.lt_iff_toInt_lt, e] at c1
  have h0 : (0 : Int32).toInt = 0 := rfl
  omega
end WND
/-! how each item ends -/
section ITM
variable {kd vl : Nat → Nat} {d : DT} {j n k : Nat}
theorem itm_h0 (h : heaB kd d j = false) : itmI kd vl d j = (false, d, j) := by
  unfold itmI bodI
  rw [if_neg (by rw [h]; decide)]
  rfl
theorem hea0 (h4 : ¬ kd j = 4) (h5 : ¬ kd j = 5) (h6 : ¬ kd j = 6) (h7 : ¬ kd j = 7) (h8 : ¬ kd j = 8) : heaB kd d j = false := by
  unfold heaB
  rw [if_neg h4, if_neg h5, if_neg h8]
  exact decide_eq_false (fun q => q.elim h6 h7)
theorem heaS0 (h : kd j = 4) (hk : ¬ d.1.2.1 < 4) : heaB kd d j = false := by unfold heaB; rw [if_pos h]; exact decide_eq_false hk
theorem heaS (h : kd j = 4) (hk : d.1.2.1 < 4) : heaB kd d j = true := by unfold heaB; rw [if_pos h]; exact decide_eq_true hk
theorem heaH0 (h : kd j = 5) (hk : ¬ d.1.1 < 8) : heaB kd d j = false := by unfold heaB; rw [if_neg (by omega), if_pos h]; exact decide_eq_false hk
theorem heaH (h : kd j = 5) (hk : d.1.1 < 8) : heaB kd d j = true := by unfold heaB; rw [if_neg (by omega), if_pos h]; exact decide_eq_true hk
theorem heaW0 (h : kd j = 8) (hk : d.1.2.2.2 = true) : heaB kd d j = false := by unfold heaB; rw [if_neg (by omega), if_neg (by omega), if_pos h, hk]; rfl
theorem heaW (h : kd j = 8) (hk : d.1.2.2.2 = false) : heaB kd d j = true := by unfold heaB; rw [if_neg (by omega), if_neg (by omega), if_pos h, hk]; rfl
theorem heaR (h : kd j = 6) : heaB kd d j = true := by unfold heaB; rw [if_neg (by omega), if_neg (by omega), if_neg (by omega)]; exact decide_eq_true (Or.inl h)
theorem heaBd (h : kd j = 7) : heaB kd d j = true := by unfold heaB; rw [if_neg (by omega), if_neg (by omega), if_neg (by omega)]; exact decide_eq_true (Or.inr h)
theorem bodI_S (h : kd j = 4) (hk : d.1.2.1 < 4) : bodI kd vl d j = bodS kd vl d j := by unfold bodI; rw [if_pos (heaS h hk), if_pos h]
theorem bodI_H (h : kd j = 5) (hk : d.1.1 < 8) : bodI kd vl d j = bodH kd vl d j := by unfold bodI; rw [if_pos (heaH h hk), if_neg (by omega), if_pos h]
theorem bodI_R (h : kd j = 6) : bodI kd vl d j = bodR kd vl d j := by unfold bodI; rw [if_pos (heaR h), if_neg (by omega), if_neg (by omega), if_pos h]
theorem bodI_B (h : kd j = 7) : bodI kd vl d j = bodB kd vl d j := by unfold bodI; rw [if_pos (heaBd h), if_neg (by omega), if_neg (by omega), if_neg (by omega), if_pos h]
theorem bodI_W (h : kd j = 8) (hk : d.1.2.2.2 = false) : bodI kd vl d j = bodW kd d j := by unfold bodI; rw [if_pos (heaW h hk), if_neg (by omega), if_neg (by omega), if_neg (by omega), if_neg (by omega)]
theorem sto_f {r : Bool × DT × Nat} (h : r.1 = false) : stoI kd r d = r := if_neg (by rw [h]; decide)
theorem sto_n {r : Bool × DT × Nat} (h : r.1 = true) (hs : ¬ kd r.2.2 = 2) : stoI kd r d = (false, d, r.2.2) := by unfold stoI; rw [if_pos h, if_neg hs]
theorem sto_y {r : Bool × DT × Nat} (h : r.1 = true) (hs : kd r.2.2 = 2) : stoI kd r d = r := by unfold stoI; rw [if_pos h, if_pos hs]
theorem bodS_1 (h1 : okN kd vl (j + 1) 1 100 = false) : bodS kd vl d j = (false, d, j + 1) := if_neg (bfne h1)
theorem bodS_2 (h1 : okN kd vl (j + 1) 1 100 = true) (h2 : okN kd vl (j + 2) 0 10 = false) : bodS kd vl d j = (false, d, j + 2) := by unfold bodS; rw [if_pos h1, if_neg (bfne h2)]
theorem bodS_3 (h1 : okN kd vl (j + 1) 1 100 = true) (h2 : okN kd vl (j + 2) 0 10 = true) : bodS kd vl d j = (true, dSrt d (vl (j + 1)) (vl (j + 2)), j + 3) := by unfold bodS; rw [if_pos h1, if_pos h2]
theorem itmS_1 (h : kd j = 4) (hk : d.1.2.1 < 4) (h1 : okN kd vl (j + 1) 1 100 = false) : itmI kd vl d j = (false, d, j + 1) := by unfold itmI; rw [bodI_S h hk, bodS_1 h1]; rfl
theorem itmS_2 (h : kd j = 4) (hk : d.1.2.1 < 4) (h1 : okN kd vl (j + 1) 1 100 = true) (h2 : okN kd vl (j + 2) 0 10 = false) : itmI kd vl d j = (false, d, j + 2) := by unfold itmI; rw [bodI_S h hk, bodS_2 h1 h2]; rfl
theorem itmS_3 (h : kd j = 4) (hk : d.1.2.1 < 4) (h1 : okN kd vl (j + 1) 1 100 = true) (h2 : okN kd vl (j + 2) 0 10 = true) (hs : ¬ kd (j + 3) = 2) : itmI kd vl d j = (false, d, j + 3) := by unfold itmI; rw [bodI_S h hk, bodS_3 h1 h2]; exact sto_n rfl hs
theorem itmS_4 (h : kd j = 4) (hk : d.1.2.1 < 4) (h1 : okN kd vl (j + 1) 1 100 = true) (h2 : okN kd vl (j + 2) 0 10 = true) (hs : kd (j + 3) = 2) : itmI kd vl d j = (true, dSrt d (vl (j + 1)) (vl (j + 2)), j + 3) := by unfold itmI; rw [bodI_S h hk, bodS_3 h1 h2]; exact sto_y rfl hs
theorem bodH_1 (h1 : okN kd vl (j + 1) 0 8 = false) : bodH kd vl d j = (false, d, j + 1) := if_neg (bfne h1)
theorem bodH_2 (h1 : okN kd vl (j + 1) 0 8 = true) (h2 : ¬ (okN kd vl (j + 2) 0 8 = true ∧ hasAt d (vl (j + 1)) (vl (j + 2)) = false)) : bodH kd vl d j = (false, d, j + 2) := by unfold bodH; rw [if_pos h1, if_neg h2]
theorem bodH_3 (h1 : okN kd vl (j + 1) 0 8 = true) (h2 : okN kd vl (j + 2) 0 8 = true ∧ hasAt d (vl (j + 1)) (vl (j + 2)) = false) : bodH kd vl d j = (true, dHou d (vl (j + 1)) (vl (j + 2)), j + 3) := by unfold bodH; rw [if_pos h1, if_pos h2]
theorem itmH_1 (h : kd j = 5) (hk : d.1.1 < 8) (h1 : okN kd vl (j + 1) 0 8 = false) : itmI kd vl d j = (false, d, j + 1) := by unfold itmI; rw [bodI_H h hk, bodH_1 h1]; rfl
theorem itmH_2 (h : kd j = 5) (hk : d.1.1 < 8) (h1 : okN kd vl (j + 1) 0 8 = true) (h2 : okN kd vl (j + 2) 0 8 = false) : itmI kd vl d j = (false, d, j + 2) := by unfold itmI; rw [bodI_H h hk, bodH_2 h1 (fun q => bfne h2 q.1)]; rfl
theorem itmH_2b (h : kd j = 5) (hk : d.1.1 < 8) (h1 : okN kd vl (j + 1) 0 8 = true) (h2 : hasAt d (vl (j + 1)) (vl (j + 2)) = true) : itmI kd vl d j = (false, d, j + 2) := by unfold itmI; rw [bodI_H h hk, bodH_2 h1 (fun q => bfne q.2 h2)]; rfl
theorem itmH_3 (h : kd j = 5) (hk : d.1.1 < 8) (h1 : okN kd vl (j + 1) 0 8 = true) (h2 : okN kd vl (j + 2) 0 8 = true) (h3 : hasAt d (vl (j + 1)) (vl (j + 2)) = false) (hs : ¬ kd (j + 3) = 2) : itmI kd vl d j = (false, d, j + 3) := by unfold itmI; rw [bodI_H h hk, bodH_3 h1 ⟨h2, h3⟩]; exact sto_n rfl hs
theorem itmH_4 (h : kd j = 5) (hk : d.1.1 < 8) (h1 : okN kd vl (j + 1) 0 8 = true) (h2 : okN kd vl (j + 2) 0 8 = true) (h3 : hasAt d (vl (j + 1)) (vl (j + 2)) = false) (hs : kd (j + 3) = 2) : itmI kd vl d j = (true, dHou d (vl (j + 1)) (vl (j + 2)), j + 3) := by unfold itmI; rw [bodI_H h hk, bodH_3 h1 ⟨h2, h3⟩]; exact sto_y rfl hs
theorem bodR_1 (h1 : okN kd vl (j + 1) 0 d.1.1 = false) : bodR kd vl d j = (false, d, j + 1) := if_neg (bfne h1)
theorem bodR_2 (h1 : okN kd vl (j + 1) 0 d.1.1 = true) (h2 : ¬ (okN kd vl (j + 2) 0 d.1.2.1 = true ∧ (d.2.1.2.2.2 (vl (j + 1)) = (-9) ∨ d.2.1.2.2.2 (vl (j + 1)) = nI (vl (j + 2))))) : bodR kd vl d j = (false, d, j + 2) := by unfold bodR; rw [if_pos h1, if_neg h2]
theorem bodR_3 (h1 : okN kd vl (j + 1) 0 d.1.1 = true) (h2 : okN kd vl (j + 2) 0 d.1.2.1 = true ∧ (d.2.1.2.2.2 (vl (j + 1)) = (-9) ∨ d.2.1.2.2.2 (vl (j + 1)) = nI (vl (j + 2)))) : bodR kd vl d j = (true, dRof d (vl (j + 1)) (vl (j + 2)), j + 3) := by unfold bodR; rw [if_pos h1, if_pos h2]
theorem itmR_1 (h : kd j = 6) (en : d.1.1 = n) (h1 : okN kd vl (j + 1) 0 n = false) : itmI kd vl d j = (false, d, j + 1) := by subst en; unfold itmI; rw [bodI_R h, bodR_1 h1]; rfl
theorem itmR_2 (h : kd j = 6) (en : d.1.1 = n) (ek : d.1.2.1 = k) (h1 : okN kd vl (j + 1) 0 n = true) (h2 : okN kd vl (j + 2) 0 k = false) : itmI kd vl d j = (false, d, j + 2) := by subst en ek; unfold itmI; rw [bodI_R h, bodR_2 h1 (fun q => bfne h2 q.1)]; rfl
theorem itmR_2b (h : kd j = 6) (en : d.1.1 = n) (h1 : okN kd vl (j + 1) 0 n = true) (h2 : ¬ (d.2.1.2.2.2 (vl (j + 1)) = (-9) ∨ d.2.1.2.2.2 (vl (j + 1)) = nI (vl (j + 2)))) : itmI kd vl d j = (false, d, j + 2) := by subst en; unfold itmI; rw [bodI_R h, bodR_2 h1 (fun q => h2 q.2)]; rfl
theorem itmR_3 (h : kd j = 6) (en : d.1.1 = n) (ek : d.1.2.1 = k) (h1 : okN kd vl (j + 1) 0 n = true) (h2 : okN kd vl (j + 2) 0 k = true) (h3 : d.2.1.2.2.2 (vl (j + 1)) = (-9) ∨ d.2.1.2.2.2 (vl (j + 1)) = nI (vl (j + 2))) (hs : ¬ kd (j + 3) = 2) : itmI kd vl d j = (false, d, j + 3) := by subst en ek; unfold itmI; rw [bodI_R h, bodR_3 h1 ⟨h2, h3⟩]; exact sto_n rfl hs
theorem itmR_4 (h : kd j = 6) (en : d.1.1 = n) (ek : d.1.2.1 = k) (h1 : okN kd vl (j + 1) 0 n = true) (h2 : okN kd vl (j + 2) 0 k = true) (h3 : d.2.1.2.2.2 (vl (j + 1)) = (-9) ∨ d.2.1.2.2.2 (vl (j + 1)) = nI (vl (j + 2))) (hs : kd (j + 3) = 2) : itmI kd vl d j = (true, dRof d (vl (j + 1)) (vl (j + 2)), j + 3) := by subst en ek; unfold itmI; rw [bodI_R h, bodR_3 h1 ⟨h2, h3⟩]; exact sto_y rfl hs
theorem bodB_1 (h1 : ¬ (okN kd vl (j + 1) 0 d.1.1 = true ∧ d.2.1.2.2.2 (vl (j + 1)) = (-9))) : bodB kd vl d j = (false, d, j + 1) := if_neg h1
theorem bodB_2 (h1 : okN kd vl (j + 1) 0 d.1.1 = true ∧ d.2.1.2.2.2 (vl (j + 1)) = (-9)) (h2 : okN kd vl (j + 2) 0 d.1.2.1 = false) : bodB kd vl d j = (false, d, j + 2) := by unfold bodB; rw [if_pos h1, if_neg (bfne h2)]
theorem bodB_3 (h1 : okN kd vl (j + 1) 0 d.1.1 = true ∧ d.2.1.2.2.2 (vl (j + 1)) = (-9)) (h2 : okN kd vl (j + 2) 0 d.1.2.1 = true) : bodB kd vl d j = (true, dBnd d (vl (j + 1)) (vl (j + 2)), j + 3) := by unfold bodB; rw [if_pos h1, if_pos h2]
theorem itmB_1 (h : kd j = 7) (en : d.1.1 = n) (h1 : okN kd vl (j + 1) 0 n = false) : itmI kd vl d j = (false, d, j + 1) := by subst en; unfold itmI; rw [bodI_B h, bodB_1 (fun q => bfne h1 q.1)]; rfl
theorem itmB_1b (h : kd j = 7) (h1 : ¬ d.2.1.2.2.2 (vl (j + 1)) = (-9)) : itmI kd vl d j = (false, d, j + 1) := by unfold itmI; rw [bodI_B h, bodB_1 (fun q => h1 q.2)]; rfl
theorem itmB_2 (h : kd j = 7) (en : d.1.1 = n) (ek : d.1.2.1 = k) (h1 : okN kd vl (j + 1) 0 n = true) (h3 : d.2.1.2.2.2 (vl (j + 1)) = (-9)) (h2 : okN kd vl (j + 2) 0 k = false) : itmI kd vl d j = (false, d, j + 2) := by subst en ek; unfold itmI; rw [bodI_B h, bodB_2 ⟨h1, h3⟩ h2]; rfl
theorem itmB_3 (h : kd j = 7) (en : d.1.1 = n) (ek : d.1.2.1 = k) (h1 : okN kd vl (j + 1) 0 n = true) (h3 : d.2.1.2.2.2 (vl (j + 1)) = (-9)) (h2 : okN kd vl (j + 2) 0 k = true) (hs : ¬ kd (j + 3) = 2) : itmI kd vl d j = (false, d, j + 3) := by subst en ek; unfold itmI; rw [bodI_B h, bodB_3 ⟨h1, h3⟩ h2]; exact sto_n rfl hs
theorem itmB_4 (h : kd j = 7) (en : d.1.1 = n) (ek : d.1.2.1 = k) (h1 : okN kd vl (j + 1) 0 n = true) (h3 : d.2.1.2.2.2 (vl (j + 1)) = (-9)) (h2 : okN kd vl (j + 2) 0 k = true) (hs : kd (j + 3) = 2) : itmI kd vl d j = (true, dBnd d (vl (j + 1)) (vl (j + 2)), j + 3) := by subst en ek; unfold itmI; rw [bodI_B h, bodB_3 ⟨h1, h3⟩ h2]; exact sto_y rfl hs
theorem bodW_1 (h1 : ¬ (9 ≤ kd (j + 1) ∧ kd (j + 1) ≤ 13)) : bodW kd d j = (false, d, j + 1) := if_neg h1
theorem bodW_2 (h1 : 9 ≤ kd (j + 1) ∧ kd (j + 1) ≤ 13) : bodW kd d j = (true, dWnd d (kd (j + 1) - 9), j + 2) := if_pos h1
theorem itmW_1 (h : kd j = 8) (hk : d.1.2.2.2 = false) (h1 : ¬ (9 ≤ kd (j + 1) ∧ kd (j + 1) ≤ 13)) : itmI kd vl d j = (false, d, j + 1) := by unfold itmI; rw [bodI_W h hk, bodW_1 h1]; rfl
theorem itmW_2 (h : kd j = 8) (hk : d.1.2.2.2 = false) (h1 : 9 ≤ kd (j + 1) ∧ kd (j + 1) ≤ 13) (hs : ¬ kd (j + 2) = 2) : itmI kd vl d j = (false, d, j + 2) := by unfold itmI; rw [bodI_W h hk, bodW_2 h1]; exact sto_n rfl hs
theorem itmW_3 (h : kd j = 8) (hk : d.1.2.2.2 = false) (h1 : 9 ≤ kd (j + 1) ∧ kd (j + 1) ≤ 13) (hs : kd (j + 2) = 2) : itmI kd vl d j = (true, dWnd d (kd (j + 1) - 9), j + 2) := by unfold itmI; rw [bodI_W h hk, bodW_2 h1]; exact sto_y rfl hs
theorem bod_ge : j ≤ (bodI kd vl d j).2.2 := by
  unfold bodI
  split
  · split
    · unfold bodS; repeat' split
      all_goals first | exact Nat.le_succ _ | exact Nat.le_add_right _ _
    · split
      · unfold bodH; repeat' split
        all_goals first | exact Nat.le_succ _ | exact Nat.le_add_right _ _
      · split
        · unfold bodR; repeat' split
          all_goals first | exact Nat.le_succ _ | exact Nat.le_add_right _ _
        · split
          · unfold bodB; repeat' split
            all_goals first | exact Nat.le_succ _ | exact Nat.le_add_right _ _
          · unfold bodW; repeat' split
            all_goals first | exact Nat.le_succ _ | exact Nat.le_add_right _ _
  · exact Nat.le_refl _
theorem itm_ge : j ≤ (itmI kd vl d j).2.2 := by
  have h := bod_ge (kd := kd) (vl := vl) (d := d) (j := j)
  unfold itmI stoI
  split
  · split
    · exact h
    · exact h
  · exact h
variable {R : Bool × DT × Nat} {it : Nat}
theorem pall_bad (hf : ∃ f, 301 < f + j ∧ pAll kd vl f d j it = R) (hj : j ≤ 300) (hk : ¬ kd j = 0) (hi : (itmI kd vl d j).1 = false) : R = (false, d, (itmI kd vl d j).2.2) := by
  obtain ⟨f, h1, rfl⟩ := hf
  obtain ⟨g, rfl⟩ : ∃ g, f = g + 1 := ⟨f - 1, by omega⟩
  rw [pAll, if_neg hk, if_neg (bfne hi)]
theorem pall_end (hf : ∃ f, 301 < f + j ∧ pAll kd vl f d j it = R) (hk : kd j = 0) : R = (true, d, it) := by
  obtain ⟨f, h1, rfl⟩ := hf
  cases f with
  | zero => rfl
  | succ g => rw [pAll, if_pos hk]
theorem pall_go {q : Nat} (hf : ∃ f, 301 < f + j ∧ pAll kd vl f d j it = R) (hj : j ≤ 300) (hk : ¬ kd j = 0) (hi : (itmI kd vl d j).1 = true) (hq : q = (itmI kd vl d j).2.2) : ∃ f, 301 < f + (q + 1) ∧ pAll kd vl f (itmI kd vl d j).2.1 (q + 1) (it + 1) = R := by
  subst hq
  obtain ⟨f, h1, rfl⟩ := hf
  obtain ⟨g, rfl⟩ : ∃ g, f = g + 1 := ⟨f - 1, by omega⟩
  have h := itm_ge (kd := kd) (vl := vl) (d := d) (j := j)
  refine ⟨g, by omega, ?_⟩
  rw [pAll, if_neg hk, if_pos hi]
end ITM
