/-! both sides' answers brought together -/
theorem tch_cnt {n : Nat} {xs ys : Nat → Int32} (hn : n ≤ 8) (hc : cOK n xs ys) {h : Nat} (hh : h < n) : popc (mkM (fun g => arb xs ys h 1 g) n) = cntB (fun b => tchb xs ys h b) n := by
  rw [popc_cnt hn]; exact cntB_congr (fun g hg => arb_tch hc hh hg)
theorem xsz_0 : xsz (0 : Int32) + xsz 0 = 0 := by decide
theorem tchb_sym {n : Nat} {xs ys : Nat → Int32} (hc : cOK n xs ys) {a b : Nat} (ha : a < n) (hb : b < n) : tchb xs ys a b = tchb xs ys b a := by
  obtain ⟨⟨x1, p1, q1⟩, ⟨y1, p2, q2⟩⟩ := hc.1 a ha
  obtain ⟨⟨x2, p3, q3⟩, ⟨y2, p4, q4⟩⟩ := hc.1 b hb
  have key : ∀ x1 x2 y1 y2 : Fin 8, decide (xsz (nI x1.val - nI x2.val) + xsz (nI y1.val - nI y2.val) = 1) = decide (xsz (nI x2.val - nI x1.val) + xsz (nI y2.val - nI y1.val) = 1) := by decide +kernel
  unfold tchb; rw [q1, q2, q3, q4]; exact key ⟨x1, p1⟩ ⟨x2, p3⟩ ⟨y1, p2⟩ ⟨y2, p4⟩
theorem spkb_sym {n : Nat} {xs ys : Nat → Int32} (hc : cOK n xs ys) {a b : Nat} (ha : a < n) (hb : b < n) : spkb xs ys a b = spkb xs ys b a := by
  obtain ⟨⟨x1, p1, q1⟩, ⟨y1, p2, q2⟩⟩ := hc.1 a ha
  obtain ⟨⟨x2, p3, q3⟩, ⟨y2, p4, q4⟩⟩ := hc.1 b hb
  have key : ∀ x1 x2 y1 y2 : Fin 8, decide ((nI x1.val = nI x2.val ∧ xsz (nI y1.val - nI y2.val) = 2) ∨ (nI y1.val = nI y2.val ∧ xsz (nI x1.val - nI x2.val) = 2)) = decide ((nI x2.val = nI x1.val ∧ xsz (nI y2.val - nI y1.val) = 2) ∨ (nI y2.val = nI y1.val ∧ xsz (nI x2.val - nI x1.val) = 2)) := by decide +kernel
  unfold spkb; rw [q1, q2, q3, q4]; exact key ⟨x1, p1⟩ ⟨x2, p3⟩ ⟨y1, p2⟩ ⟨y2, p4⟩
theorem tchb_self (xs ys : Nat → Int32) (a : Nat) : tchb xs ys a a = false := by
  unfold tchb; rw [Int32.sub_self, Int32.sub_self]; decide
theorem spkb_self (xs ys : Nat → Int32) (a : Nat) : spkb xs ys a a = false := by
  unfold spkb; rw [Int32.sub_self, Int32.sub_self]
  exact decide_eq_false (fun q => q.elim (fun z => absurd z.2 (by decide)) (fun z => absurd z.2 (by decide)))
theorem sum_col {Q : Nat → Nat → Bool} {m : Nat} : ∀ n, sumN (fun h => cntB (Q h) m + (if Q h m = true then 1 else 0)) n = sumN (fun h => cntB (Q h) m) n + cntB (fun h => Q h m) n
  | 0 => rfl
  | n + 1 => by rw [sumN, sumN, cntB, sum_col n]; omega
theorem sym2 {Q : Nat → Nat → Bool} : ∀ n, (∀ a b, a < n → b < n → Q a b = Q b a) → (∀ a, Q a a = false) → sumN (fun h => cntB (Q h) n) n = 2 * sumN (fun h => cntB (Q h) h) n
  | 0, _, _ => rfl
  | n + 1, hs, hi => by
    have ih := sym2 n (fun a b ha hb => hs a b (by omega) (by omega)) hi
    have e1 : sumN (fun h => cntB (Q h) (n + 1)) n = sumN (fun h => cntB (Q h) n) n + cntB (fun h => Q h n) n := sum_col n
    have e2 : cntB (fun h => Q h n) n = cntB (Q n) n := cntB_congr (fun h hh => hs h n (by omega) (by omega))
    have e3 : cntB (Q n) (n + 1) = cntB (Q n) n := by rw [cntB, hi n, if_neg (by decide), Nat.add_zero]
    rw [sumN, sumN, e1, e2, e3, ih]
    omega
theorem brN_sum (xs ys tr : Nat → Int32) (sp : Int32) : ∀ n, brN xs ys tr sp n = sumN (fun a => cntB (fun b => isbr xs ys tr sp a b) a) n
  | 0 => rfl
  | n + 1 => by rw [brN, sumN, brN_sum xs ys tr sp n]
theorem isbr_sym {n : Nat} {xs ys tr : Nat → Int32} {sp : Int32} (hc : cOK n xs ys) {a b : Nat} (ha : a < n) (hb : b < n) : isbr xs ys tr sp a b = isbr xs ys tr sp b a := by
  unfold isbr
  rw [tchb_sym hc ha hb, spkb_sym hc ha hb]
  congr 1
  by_cases e : tr a = tr b
  · rw [e]
  · rw [decide_eq_false e, decide_eq_false (p := tr b = tr a) (fun q => e q.symm), Bool.and_false, Bool.and_false]
theorem isbr_self (xs ys tr : Nat → Int32) (sp : Int32) (a : Nat) : isbr xs ys tr sp a a = false := by
  unfold isbr; rw [tchb_self, spkb_self]; simp
theorem unl_cnt {n : Nat} {xs ys rf : Nat → Int32} {sp : Int32} (hn : n ≤ 8) (hc : cOK n xs ys) {h : Nat} (hh : h < n) : unl xs ys rf sp n h = cntB (fun b => isbr xs ys rf sp h b) n := by
  unfold unl
  by_cases e : rf h = (-9)
  · rw [if_pos e]
    have z : ∀ m, cntB (fun b => isbr xs ys rf sp h b) m = 0 := by
      intro m
      induction m with
      | zero => rfl
      | succ m ih => rw [cntB, ih, isbr, decide_eq_false (p := ¬ rf h = (-9)) (fun q => q e)]; simp
    rw [z]
  · rw [if_neg e, mkM_and, popc_cnt hn]
    refine cntB_congr (fun g hg => ?_)
    unfold nearb isbr
    rw [arb_tch hc hh hg, arb_spk hc hh hg, decide_eq_true e, Bool.true_and]
    congr 1
    exact decide_eq_decide.2 ⟨fun q => q.symm, fun q => q.symm⟩
theorem unl_br {n : Nat} {xs ys rf : Nat → Int32} {sp : Int32} (hn : n ≤ 8) (hc : cOK n xs ys) : sumN (unl xs ys rf sp n) n / 2 = brN xs ys rf sp n := by
  rw [sumN_congr (Q := fun h => cntB (fun b => isbr xs ys rf sp h b) n) (fun h hh => unl_cnt hn hc hh), sym2 n (fun a b ha hb => isbr_sym hc ha hb) (isbr_self xs ys rf sp), brN_sum]
  omega
theorem cnt_not {P : Nat → Bool} : ∀ n, n - cntB P n = cntB (fun h => !P h) n
  | 0 => rfl
  | n + 1 => by
    have h1 := cnt_not (P := P) n
    have h2 := cntB_le P n
    rw [cntB, cntB, ← h1]
    cases P n
    · rw [if_neg (by decide), if_pos (by decide)]; omega
    · rw [if_pos rfl, if_neg (by decide)]; omega
theorem sw04 {v : Int32} (h0 : ¬ v = 0) (h1 : ¬ v = 1) (h2 : ¬ v = 2) (h3 : ¬ v = 3) (h4 : ¬ v = 4) : inr v 0 4 = false := by
  cases q : inr v 0 4 with
  | false => rfl
  | true =>
    obtain ⟨p1, p2⟩ := of_decide_eq_true q
    obtain ⟨j, hj, rfl⟩ := inb_nI (n := 5) (by omega) (show inb v 5 = true from decide_eq_true ⟨p1, by
      rw [Int32.lt_iff_toInt_lt]; rw [Int32.le_iff_toInt_le] at p2
      have e1 : (4 : Int32).toInt = 4 := by decide
      have e2 : (nI 5).toInt = 5 := by decide
      omega⟩)
    match j, hj with
    | 0, _ => exact absurd rfl h0
    | 1, _ => exact absurd rfl h1
    | 2, _ => exact absurd rfl h2
    | 3, _ => exact absurd rfl h3
    | 4, _ => exact absurd rfl h4
theorem flag_f {v : Int32} (h0 : ¬ v = 0) (h1 : ¬ v = 1) : inr v 0 1 = false := by
  cases q : inr v 0 1 with
  | false => rfl
  | true =>
    obtain ⟨j, hj, rfl⟩ := inr_01 q
    match j, hj with
    | 0, _ => exact absurd rfl h0
    | 1, _ => exact absurd rfl h1
theorem saw_f {mi : Int32} (h : ¬ mi = (-9)) : inr mi 0 99 = decide (0 ≤ mi ∧ mi ≤ 99) := rfl
theorem inr_04 {v : Int32} (h : inr v 0 4 = true) : ∃ j, j < 5 ∧ v = nI j := by
  obtain ⟨h1, h2⟩ := of_decide_eq_true h
  refine inb_nI (n := 5) (by omega) (decide_eq_true ⟨h1, ?_⟩)
  rw [Int32.lt_iff_toInt_lt]; rw [Int32.le_iff_toInt_le] at h2
  have e1 : (4 : Int32).toInt = 4 := by decide
  have e2 : (nI 5).toInt = 5 := by decide
  omega
theorem saw_no {n sn : Nat} {h mi : Int32} (hb : inb h n = true) (hm : ¬ (mi = (-9) ∨ inr mi 0 99 = true)) : (-1) = aSaw n sn h mi := by
  rw [aSaw, if_pos hb, if_neg (fun q => hm (Or.inl q)), if_neg (fun q => hm (Or.inr q))]
theorem saw_yes {n sn : Nat} {h mi x : Int32} (hb : inb h n = true) (hm : mi = (-9) ∨ inr mi 0 99 = true) (h8 : sn ≤ 8) (hx : (sn < 8 ∧ x = nI (sn + 1)) ∨ (¬ sn < 8 ∧ x = (-3))) : x = aSaw n sn h mi := by
  have e : aSaw n sn h mi = (if sn = 8 then (-3) else nI (sn + 1)) := by
    rw [aSaw, if_pos hb]
    by_cases q : mi = (-9)
    · rw [if_pos q]
    · rw [if_neg q, if_pos (hm.resolve_left q)]
  rw [e]
  rcases hx with ⟨h1, rfl⟩ | ⟨h1, rfl⟩
  · rw [if_neg (by omega)]
  · rw [if_pos (by omega)]
theorem roof_in {α : Type} {p q : Prop} [Decidable p] [Decidable q] {x y : α} (h : ¬ (¬ p ∧ ¬ q)) : (if p then x else if q then x else y) = x := by
  by_cases hp : p
  · rw [if_pos hp]
  · rw [if_neg hp]
    by_cases hq : q
    · rw [if_pos hq]
    · exact absurd ⟨hp, hq⟩ h
