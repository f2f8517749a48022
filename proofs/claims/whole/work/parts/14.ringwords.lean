/-! sets as bits; a fire from ring to ring -/
theorem mkM_tb (P : Nat → Bool) : ∀ n i : Nat, (mkM P n).testBit i = (decide (i < n) && P i)
  | 0, i => by simp [mkM]
  | n + 1, i => by
    have ih := mkM_tb P n i
    have hlt := mkM_lt P n
    have e : mkM P (n + 1) = 2 ^ n * (P n).toNat + mkM P n := by
      rw [mkM]
      cases hp : P n <;> simp [Nat.add_comm]
    rw [e, Nat.testBit_two_pow_mul_add _ hlt]
    by_cases h : i < n
    · rw [if_pos h, ih, decide_eq_true h, decide_eq_true (show i < n + 1 by omega)]
    · rw [if_neg h]
      by_cases h2 : i = n
      · subst h2
        rw [decide_eq_true (Nat.lt_succ_self i), Nat.sub_self]
        cases P i <;> rfl
      · rw [decide_eq_false (show ¬ i < n + 1 by omega)]
        cases hx : i - n with
        | zero => omega
        | succ d => cases P n <;> simp [Nat.testBit_succ]
theorem mkM_ext {P : Nat → Bool} {n mm : Nat} (h1 : mm < 2 ^ n) (h : ∀ i, i < n → mm.testBit i = P i) : mm = mkM P n := by
  apply Nat.eq_of_testBit_eq
  intro i
  rw [mkM_tb]
  by_cases q : i < n
  · rw [h i q, decide_eq_true q]; rfl
  · rw [decide_eq_false q, Nat.testBit_lt_two_pow (Nat.lt_of_lt_of_le h1 (Nat.pow_le_pow_right (by omega) (show n ≤ i by omega)))]; rfl
theorem mkM_and (P Q : Nat → Bool) (n : Nat) : mkM P n &&& mkM Q n = mkM (fun g => P g && Q g) n := by
  refine mkM_ext (Nat.lt_of_le_of_lt Nat.and_le_left (mkM_lt P n)) (fun i hi => ?_)
  rw [Nat.testBit_and, mkM_tb, mkM_tb, decide_eq_true hi]; rfl
theorem tb255 : ∀ i : Fin 8, (255 : Nat).testBit i.val = true := by decide +kernel
theorem mkM_andnot (P Q : Nat → Bool) {n : Nat} (hn : n ≤ 8) : mkM P n &&& (mkM Q n ^^^ 255) = mkM (fun g => P g && !Q g) n := by
  refine mkM_ext (Nat.lt_of_le_of_lt Nat.and_le_left (mkM_lt P n)) (fun i hi => ?_)
  rw [Nat.testBit_and, Nat.testBit_xor, mkM_tb, mkM_tb, decide_eq_true hi, tb255 ⟨i, by omega⟩]
  cases P i <;> cases Q i <;> rfl
theorem mkM_zero {P : Nat → Bool} {n : Nat} (h : mkM P n = 0) {i : Nat} (hi : i < n) : P i = false := by
  have := mkM_tb P n i
  rw [h, decide_eq_true hi] at this
  simpa using this.symm
theorem mkM_nz {P : Nat → Bool} {n : Nat} (h : ¬ mkM P n = 0) : ∃ i, i < n ∧ P i = true := by
  apply Classical.byContradiction
  intro q
  apply h
  have e : mkM P n = mkM (fun _ => false) n := mkM_congr (fun g hg => by
    cases hp : P g with
    | false => rfl
    | true => exact absurd ⟨g, hg, hp⟩ q)
  rw [e]
  have z : ∀ n, mkM (fun _ => false) n = 0 := by
    intro n
    induction n with
    | zero => rfl
    | succ n ih => rw [mkM, ih]; rfl
  exact z n
theorem mkM_single {n a : Nat} (h : a < n) : mkM (fun g => decide (g = a)) n = 2 ^ a := by
  symm
  refine mkM_ext (Nat.pow_lt_pow_right (by omega) h) (fun i _ => ?_)
  rw [Nat.testBit_two_pow]
  by_cases q : i = a
  · rw [decide_eq_true q, decide_eq_true q.symm]
  · rw [decide_eq_false q, decide_eq_false (fun z => q z.symm)]
theorem notmask {x y : Nat} (hx : x < 256) (hy : y < 256) : nI x &&& (nI y ^^^ (-1)) = nI (x &&& (y ^^^ 255)) := by
  apply Int32.toBitVec_inj.1
  show BitVec.ofNat 32 x &&& (BitVec.ofNat 32 y ^^^ (-1 : Int32).toBitVec) = BitVec.ofNat 32 (x &&& (y ^^^ 255))
  have e1 : (-1 : Int32).toBitVec = BitVec.allOnes 32 := by decide
  rw [e1]
  apply BitVec.eq_of_getLsbD_eq
  intro i hi
  simp only [BitVec.getLsbD_and, BitVec.getLsbD_xor, BitVec.getLsbD_ofNat, BitVec.getLsbD_allOnes, Nat.testBit_and, Nat.testBit_xor, hi, decide_true, Bool.true_and]
  by_cases h8 : i < 8
  · rw [tb255 ⟨i, h8⟩]
  · rw [Nat.testBit_lt_two_pow (x := x) (Nat.lt_of_lt_of_le hx (Nat.pow_le_pow_right (n := 2) (by omega) (show 8 ≤ i by omega)))]; rfl
/-- the cells of a town: in range, and apart -/
def cOK (n : Nat) (xs ys : Nat → Int32) : Prop := (∀ g, g < n → (∃ x, x < 8 ∧ xs g = nI x) ∧ ∃ y, y < 8 ∧ ys g = nI y) ∧ ∀ g h, g < n → h < n → xs g = xs h → ys g = ys h → g = h
def rOK (n k : Nat) (rf : Nat → Int32) : Prop := ∀ h, h < n → rf h = (-9) ∨ ∃ v, v < k ∧ rf h = nI v
def pOK (k : Nat) (pr bu : Nat → Int32) : Prop := ∀ v, v < k → (∃ x, 1 ≤ x ∧ x ≤ 99 ∧ pr v = nI x) ∧ ∃ x, x ≤ 9 ∧ bu v = nI x
theorem arb1_all : ∀ a b x y : Fin 8, decide (xabs (nI b.val - nI a.val) + xabs (nI y.val - nI x.val) = 1 ∧ (xabs (nI b.val - nI a.val) = 0 ∨ xabs (nI y.val - nI x.val) = 0)) = decide (xsz (nI a.val - nI b.val) + xsz (nI x.val - nI y.val) = 1) := by decide +kernel
theorem arb2_all : ∀ a b x y : Fin 8, decide (xabs (nI b.val - nI a.val) + xabs (nI y.val - nI x.val) = 2 ∧ (xabs (nI b.val - nI a.val) = 0 ∨ xabs (nI y.val - nI x.val) = 0)) = decide ((nI a.val = nI b.val ∧ xsz (nI x.val - nI y.val) = 2) ∨ (nI x.val = nI y.val ∧ xsz (nI a.val - nI b.val) = 2)) := by decide +kernel
theorem arb_tch {n : Nat} {xs ys : Nat → Int32} (h : cOK n xs ys) {a g : Nat} (ha : a < n) (hg : g < n) : arb xs ys a 1 g = tchb xs ys a g := by
  obtain ⟨⟨x1, p1, q1⟩, ⟨y1, p2, q2⟩⟩ := h.1 a ha
  obtain ⟨⟨x2, p3, q3⟩, ⟨y2, p4, q4⟩⟩ := h.1 g hg
  unfold arb tchb
  rw [q1, q2, q3, q4]
  exact arb1_all ⟨x1, p1⟩ ⟨x2, p3⟩ ⟨y1, p2⟩ ⟨y2, p4⟩
theorem arb_spk {n : Nat} {xs ys : Nat → Int32} (h : cOK n xs ys) {a g : Nat} (ha : a < n) (hg : g < n) : arb xs ys a 2 g = spkb xs ys a g := by
  obtain ⟨⟨x1, p1, q1⟩, ⟨y1, p2, q2⟩⟩ := h.1 a ha
  obtain ⟨⟨x2, p3, q3⟩, ⟨y2, p4, q4⟩⟩ := h.1 g hg
  unfold arb spkb
  rw [q1, q2, q3, q4]
  exact arb2_all ⟨x1, p1⟩ ⟨x2, p3⟩ ⟨y1, p2⟩ ⟨y2, p4⟩
/-- the bit of the house that sparks reach -/
def spkM (n : Nat) (xs ys : Nat → Int32) (h wn mm : Nat) : Prop := (wn = 0 ∧ mm = 0) ∨ (1 ≤ wn ∧ fstB xs ys (xs h + 2 * rgt wn) (ys h + 2 * dwn wn) n mm)
theorem wd_all : ∀ wn : Fin 5, wdx (nI wn.val) = 2 * rgt wn.val ∧ wdy (nI wn.val) = 2 * dwn wn.val := by decide +kernel
theorem spk_mk {n : Nat} {xs ys : Nat → Int32} (hc : cOK n xs ys) {h wn mm : Nat} (hw : wn ≤ 4) (hm : spkM n xs ys h wn mm) : mm = mkM (fun g => thrb xs ys h g (nI wn)) n := by
  have w5 := wd_all ⟨wn, by omega⟩
  have key : ∀ g, thrb xs ys h g (nI wn) = decide (1 ≤ wn ∧ xs g = xs h + 2 * rgt wn ∧ ys g = ys h + 2 * dwn wn) := by
    intro g
    unfold thrb
    refine decide_eq_decide.2 ?_
    rw [w5.1, w5.2]
    have e0 : (0 < nI wn) ↔ 1 ≤ wn := by
      have := nI_ltI (a := 0) (b := wn) (by omega) (by omega)
      rw [nI_0] at this
      exact this
    rw [e0]
    refine and_congr_right (fun _ => and_congr ?_ ?_)
    · exact ⟨fun q => by rw [← q, Int32.add_comm, Int32.sub_add_cancel], fun q => by rw [q, Int32.add_comm, Int32.add_sub_cancel]⟩
    · exact ⟨fun q => by rw [← q, Int32.add_comm, Int32.sub_add_cancel], fun q => by rw [q, Int32.add_comm, Int32.add_sub_cancel]⟩
  rcases hm with ⟨h1, h2⟩ | ⟨h1, h2⟩
  · rw [h2]
    have e : mkM (fun g => thrb xs ys h g (nI wn)) n = mkM (fun _ => false) n := mkM_congr (fun g _ => by rw [key]; exact decide_eq_false (by omega))
    have z : ∀ n, mkM (fun _ => false) n = 0 := by
      intro n
      induction n with
      | zero => rfl
      | succ n ih => rw [mkM, ih]; rfl
    rw [e, z]
  · rcases h2 with ⟨h2, h3⟩ | ⟨i, h2, h3, h4, h5⟩
    · have e : mkM (fun g => thrb xs ys h g (nI wn)) n = mkM (fun _ => false) n := mkM_congr (fun g hg => by rw [key]; exact decide_eq_false (fun q => h3 g hg q.2))
      have z : ∀ n, mkM (fun _ => false) n = 0 := by
        intro n
        induction n with
        | zero => rfl
        | succ n ih => rw [mkM, ih]; rfl
      rw [h2, e, z]
    · rw [h3, ← mkM_single h2]
      refine mkM_congr (fun g hg => ?_)
      rw [key]
      refine decide_eq_decide.2 ⟨fun q => by subst q; exact ⟨h1, h4⟩, fun q => hc.2 g i hg h2 (q.2.1.trans h4.1.symm) (q.2.2.trans h4.2.symm)⟩
theorem cntB_mono {P Q : Nat → Bool} : ∀ {n : Nat}, (∀ g, g < n → P g = true → Q g = true) → cntB P n ≤ cntB Q n
  | 0, _ => Nat.le_refl _
  | n + 1, h => by
    have ih := cntB_mono (P := P) (Q := Q) (n := n) (fun g hg => h g (by omega))
    rw [cntB, cntB]
    by_cases q : P n = true
    · rw [if_pos q, if_pos (h n (by omega) q)]; omega
    · rw [if_neg q]; omega
theorem cntB_lt {P Q : Nat → Bool} {a : Nat} : ∀ {n : Nat}, (∀ g, g < n → P g = true → Q g = true) → a < n → P a = false → Q a = true → cntB P n < cntB Q n
  | 0, _, h, _, _ => absurd h (Nat.not_lt_zero _)
  | n + 1, h, ha, hp, hq => by
    rw [cntB, cntB]
    by_cases e : a = n
    · subst e
      have ih := cntB_mono (P := P) (Q := Q) (n := a) (fun g hg => h g (by omega))
      rw [if_neg (by rw [hp]; decide), if_pos hq]; omega
    · have ih := cntB_lt (P := P) (Q := Q) (n := n) (fun g hg => h g (by omega)) (by omega) hp hq
      by_cases q : P n = true
      · rw [if_pos q, if_pos (h n (by omega) q)]; omega
      · rw [if_neg q]; omega
theorem cntB_full {P : Nat → Bool} : ∀ {n : Nat}, n ≤ cntB P n → ∀ g, g < n → P g = true
  | 0, _, g, hg => absurd hg (Nat.not_lt_zero _)
  | n + 1, h, g, hg => by
    rw [cntB] at h
    have h2 := cntB_le P n
    by_cases q : P n = true
    · rw [if_pos q] at h
      by_cases e : g = n
      · subst e; exact q
      · exact cntB_full (n := n) (by omega) g (by omega)
    · rw [if_neg q] at h; omega
section RING
variable {tr xs ys : Nat → Int32} {n : Nat} {w : Int32} {a0 : Nat}
def rng (tr xs ys : Nat → Int32) (n : Nat) (w : Int32) (a0 mi g : Nat) : Bool := decide (fS tr xs ys n w a0 mi g = nI mi)
def prv (tr xs ys : Nat → Int32) (n : Nat) (w : Int32) (a0 mi g : Nat) : Bool := litB (fS tr xs ys n w a0 mi) g && !rng tr xs ys n w a0 mi g
theorem litB_iff {F : Nat → Int32} {g : Nat} : litB F g = true ↔ ¬ F g = (-9) := by unfold litB; simp
theorem rng_lit {mi g : Nat} (hm : mi < 900) (h : rng tr xs ys n w a0 mi g = true) : litB (fS tr xs ys n w a0 mi) g = true := by
  rw [litB_iff, of_decide_eq_true h]; exact nI_ne9 (by omega)
theorem prv_s {mi g : Nat} (hm : mi < 800) : prv tr xs ys n w a0 (mi + 1) g = litB (fS tr xs ys n w a0 mi) g := by
  unfold prv
  by_cases q : fS tr xs ys n w a0 mi g = (-9)
  · have e : litB (fS tr xs ys n w a0 mi) g = false := by unfold litB; rw [decide_eq_true q]; rfl
    rw [e]
    by_cases z : fCb tr xs ys n w (fS tr xs ys n w a0 mi) mi g = true
    · have : rng tr xs ys n w a0 (mi + 1) g = true := decide_eq_true (by rw [fS_1, if_pos z])
      rw [this]; simp
    · have : litB (fS tr xs ys n w a0 (mi + 1)) g = false := by unfold litB; rw [fS_1, if_neg z, decide_eq_true q]; rfl
      rw [this]; rfl
  · have e : litB (fS tr xs ys n w a0 mi) g = true := litB_iff.2 q
    have e2 : litB (fS tr xs ys n w a0 (mi + 1)) g = true := by rw [litB_iff, fS_mono q]; exact q
    have e3 : rng tr xs ys n w a0 (mi + 1) g = false := by
      refine decide_eq_false (fun z => ?_)
      rw [fS_mono q] at z
      rcases fS_val (tr := tr) (xs := xs) (ys := ys) (n := n) (w := w) (a0 := a0) mi g with q1 | ⟨t, q1, q2⟩
      · exact q q1
      · rw [q2] at z; have := (nI_eq (by omega) (by omega)).1 z; omega
    rw [e, e2, e3]; rfl
theorem lit_pr {mi g : Nat} (hm : mi < 900) : litB (fS tr xs ys n w a0 mi) g = (prv tr xs ys n w a0 mi g || rng tr xs ys n w a0 mi g) := by
  unfold prv
  cases h1 : rng tr xs ys n w a0 mi g with
  | true => rw [rng_lit hm h1]; rfl
  | false => simp
theorem prv_0 {g : Nat} : prv tr xs ys n w a0 0 g = false := by
  unfold prv rng litB
  rw [fS_0]
  by_cases q : g = a0
  · rw [if_pos q]; rfl
  · rw [if_neg q]; rfl
theorem rng_0 (ha : a0 < n) : mkM (rng tr xs ys n w a0 0) n = 2 ^ a0 := by
  rw [← mkM_single ha]
  refine mkM_congr (fun g _ => ?_)
  unfold rng
  refine decide_eq_decide.2 ?_
  rw [fS_0]
  by_cases q : g = a0
  · rw [if_pos q]; exact ⟨fun _ => q, fun _ => rfl⟩
  · rw [if_neg q]; exact ⟨fun z => absurd z.symm (nI_ne9 (t := 0) (by omega)), fun z => absurd z q⟩
/-- behind a ring without houses nothing more burns -/
theorem fS_still {mi : Nat} (h : ∀ g, g < n → rng tr xs ys n w a0 mi g = false) : ∀ d g, mi + d < 900 → fS tr xs ys n w a0 (mi + d) g = fS tr xs ys n w a0 mi g
  | 0, g, _ => rfl
  | d + 1, g, hb => by
    have ih := fun g => fS_still h d g (by omega)
    rw [show mi + (d + 1) = (mi + d) + 1 by omega, fS_1, if_neg, ih g]
    intro z
    obtain ⟨h1, h2, a, h3, h4, h5, h6⟩ := fCb_iff.1 z
    rw [ih a] at h4
    have hr := of_decide_eq_false (h a h3)
    rcases fS_val (tr := tr) (xs := xs) (ys := ys) (n := n) (w := w) (a0 := a0) mi a with q1 | ⟨t, q1, q2⟩
    · rw [q1] at h4; exact nI_ne9 (by omega) h4.symm
    · rw [q2] at h4
      have e := (nI_eq (by omega) (by omega)).1 h4
      rw [q2] at hr
      exact hr (by rw [e, show d = 0 by omega]; rfl)
/-- as many houses burn as there were rings -/
theorem ring_cnt (hn : n ≤ 8) : ∀ mi, mi < 100 → (∀ k, k ≤ mi → ∃ g, g < n ∧ rng tr xs ys n w a0 k g = true) → mi + 1 ≤ cntB (litB (fS tr xs ys n w a0 mi)) n
  | 0, _, h => by
    obtain ⟨g, hg, hr⟩ := h 0 (Nat.le_refl 0)
    have := cntB_lt (P := fun _ => false) (Q := litB (fS tr xs ys n w a0 0)) (a := g) (n := n) (fun _ _ q => absurd q (by decide)) hg rfl (rng_lit (by omega) hr)
    omega
  | mi + 1, hm, h => by
    have ih := ring_cnt hn mi (by omega) (fun k hk => h k (by omega))
    obtain ⟨g, hg, hr⟩ := h (mi + 1) (Nat.le_refl _)
    have hp : litB (fS tr xs ys n w a0 mi) g = false := by
      have e := prv_s (tr := tr) (xs := xs) (ys := ys) (n := n) (w := w) (a0 := a0) (mi := mi) (g := g) (by omega)
      rw [← e]
      unfold prv
      rw [hr]; simp
    have := cntB_lt (P := litB (fS tr xs ys n w a0 mi)) (Q := litB (fS tr xs ys n w a0 (mi + 1))) (a := g) (n := n) (fun x _ q => by rw [litB_iff] at q ⊢; rw [fS_mono q]; exact q) hg hp (rng_lit (by omega) hr)
    omega
theorem ring8 (hn : n ≤ 8) (h : ∀ k, k < 8 → ∃ g, g < n ∧ rng tr xs ys n w a0 k g = true) : ∀ g, g < n → rng tr xs ys n w a0 8 g = false := by
  intro g hg
  have h1 := ring_cnt (tr := tr) (xs := xs) (ys := ys) (w := w) (a0 := a0) hn 7 (by omega) (fun k hk => h k (by omega))
  have h2 := cntB_full (P := litB (fS tr xs ys n w a0 7)) (n := n) (by omega) g hg
  have e := prv_s (tr := tr) (xs := xs) (ys := ys) (n := n) (w := w) (a0 := a0) (mi := 7) (g := g) (by omega)
  rw [h2] at e
  unfold prv at e
  cases hr : rng tr xs ys n w a0 8 g with
  | false => rfl
  | true => rw [hr] at e; simp at e
def lastP (F : Nat → Int32) (n lc : Nat) : Prop := (∃ g, g < n ∧ F g = nI lc) ∧ (∀ g, g < n → ∀ t, t < 2147483648 → F g = nI t → t ≤ lc) ∧ lc ≤ 8
/-- where the rings end -/
theorem ring_end (hn : n ≤ 8) (ha : a0 < n) {mi : Nat} (hm : mi ≤ 8) (hne : ∀ k, k < mi → ∃ g, g < n ∧ rng tr xs ys n w a0 k g = true) (hx : mi = 8 ∨ mkM (rng tr xs ys n w a0 mi) n = 0) :
    (∀ g, fS tr xs ys n w a0 98 g = fS tr xs ys n w a0 mi g) ∧ (∀ g, g < n → prv tr xs ys n w a0 mi g = litB (fS tr xs ys n w a0 98) g) ∧ (∀ g, prv tr xs ys n w a0 mi g = litB (fS tr xs ys n w a0 mi) g) ∧ 1 ≤ mi ∧ lastP (fS tr xs ys n w a0 98) n (mi - 1) := by
  have hr : ∀ g, g < n → rng tr xs ys n w a0 mi g = false := by
    rcases hx with hx | hx
    · subst hx; exact ring8 hn hne
    · exact fun g hg => mkM_zero hx hg
  have hs : ∀ g, fS tr xs ys n w a0 98 g = fS tr xs ys n w a0 mi g := by
    intro g
    have := fS_still hr (98 - mi) g (by omega)
    rw [show mi + (98 - mi) = 98 by omega] at this
    exact this
  have hp : ∀ g, prv tr xs ys n w a0 mi g = litB (fS tr xs ys n w a0 mi) g := by
    intro g
    unfold prv
    by_cases hg : g < n
    · rw [hr g hg]; simp
    · have : fS tr xs ys n w a0 mi g = (-9) := Classical.byContradiction (fun q => hg (fS_al ha (by omega) q).2)
      unfold litB; rw [this]; rfl
  have h1 : 1 ≤ mi := by
    rcases Nat.eq_zero_or_pos mi with q | q
    · subst q
      have := hr a0 ha
      have e : rng tr xs ys n w a0 0 a0 = true := decide_eq_true (by rw [fS_0, if_pos rfl]; rfl)
      rw [e] at this; exact absurd this (by decide)
    · exact q
  refine ⟨hs, fun g _ => ?_, hp, h1, ?_, ?_, by omega⟩
  · rw [hp g]; unfold litB; rw [hs g]
  · obtain ⟨g, hg, hq⟩ := hne (mi - 1) (by omega)
    have e := of_decide_eq_true hq
    refine ⟨g, hg, ?_⟩
    rw [hs g]
    have e2 := fS_mono (tr := tr) (xs := xs) (ys := ys) (n := n) (w := w) (a0 := a0) (mi := mi - 1) (h := g) (by rw [e]; exact nI_ne9 (by omega))
    rw [show mi - 1 + 1 = mi by omega] at e2
    rw [e2, e]
  · intro g hg t ht hq
    rw [hs g] at hq
    rcases fS_val (tr := tr) (xs := xs) (ys := ys) (n := n) (w := w) (a0 := a0) mi g with q1 | ⟨t2, q1, q2⟩
    · rw [q1] at hq; exact absurd hq.symm (nI_ne9 ht)
    · rw [q2] at hq
      have e := (nI_eq (by omega) ht).1 hq
      have e3 := of_decide_eq_false (hr g hg)
      rw [q2] at e3
      by_cases z : t2 = mi
      · exact absurd (by rw [z]) e3
      · omega
/-- what the houses of a ring reach -/
def rchB (tr xs ys : Nat → Int32) (n : Nat) (w : Int32) (a0 mi g a : Nat) : Bool := rng tr xs ys n w a0 mi a && (tchb xs ys a g || thrb xs ys a g w)
theorem rch_up {mi h re mm wn : Nat} (hn : n ≤ 8) (hc : cOK n xs ys) (hw : w = nI wn) (hwn : wn ≤ 4) (hh : h < n) (hm : spkM n xs ys h wn mm) (hr : rng tr xs ys n w a0 mi h = true) (hre : re = mkM (fun g => anyN (rchB tr xs ys n w a0 mi g) h) n) :
    re ||| (mkM (fun g => arb xs ys h 1 g) n ||| mm) = mkM (fun g => anyN (rchB tr xs ys n w a0 mi g) (h + 1)) n := by
  subst hw
  rw [hre, spk_mk hc hwn hm, mkM_or, mkM_or]
  refine mkM_congr (fun g hg => ?_)
  rw [anyN, arb_tch hc hh hg]
  unfold rchB
  rw [hr]; rfl
theorem rch_no {mi h re : Nat} (hr : h < n → rng tr xs ys n w a0 mi h = false) (ha : a0 < n) (hm : mi < 800) (hre : re = mkM (fun g => anyN (rchB tr xs ys n w a0 mi g) h) n) : re = mkM (fun g => anyN (rchB tr xs ys n w a0 mi g) (h + 1)) n := by
  rw [hre]
  refine mkM_congr (fun g _ => ?_)
  rw [anyN]
  have e : rng tr xs ys n w a0 mi h = false := by
    by_cases q : h < n
    · exact hr q
    · refine decide_eq_false (fun z => q (fS_al (mi := mi) ha (by omega) (by rw [z]; exact nI_ne9 (by omega))).2)
  unfold rchB
  rw [e]; simp
theorem rch_next {mi re bm ca : Nat} (hn : n ≤ 8) (ha : a0 < n) (hm : mi < 100) (hre : re = mkM (fun g => anyN (rchB tr xs ys n w a0 mi g) 8) n) (hb : bm = mkM (prv tr xs ys n w a0 mi) n) (hca : ca = mkM (rng tr xs ys n w a0 mi) n) :
    (re &&& mkM (fun g => decide (tr g = tr a0)) n) &&& ((bm ||| ca) ^^^ 255) = mkM (rng tr xs ys n w a0 (mi + 1)) n ∧ bm ||| ca = mkM (prv tr xs ys n w a0 (mi + 1)) n := by
  have e0 : bm ||| ca = mkM (prv tr xs ys n w a0 (mi + 1)) n := by
    rw [hb, hca, mkM_or]
    exact mkM_congr (fun g _ => by rw [prv_s (by omega), lit_pr (by omega)])
  refine ⟨?_, e0⟩
  rw [e0, hre, mkM_and, mkM_andnot _ _ hn]
  refine mkM_congr (fun g hg => ?_)
  rw [prv_s (by omega)]
  by_cases z : fCb tr xs ys n w (fS tr xs ys n w a0 mi) mi g = true
  · have e1 : rng tr xs ys n w a0 (mi + 1) g = true := decide_eq_true (by rw [fS_1, if_pos z])
    obtain ⟨h1, h2, a, h3, h4, h5, h6⟩ := fCb_iff.1 z
    have e2 : anyN (rchB tr xs ys n w a0 mi g) 8 = true := (anyN_iff _ _).2 ⟨a, by omega, by unfold rchB rng; rw [decide_eq_true h4, h6]; rfl⟩
    have e3 : tr g = tr a0 := h5.symm.trans (fS_al ha (show mi < 1000 by omega) (by rw [h4]; exact nI_ne9 (by omega))).1
    have e4 : litB (fS tr xs ys n w a0 mi) g = false := by unfold litB; rw [decide_eq_true h1]; rfl
    rw [e1, e2, decide_eq_true e3, e4]; rfl
  · have e1 : rng tr xs ys n w a0 (mi + 1) g = false := by
      refine decide_eq_false (fun q => ?_)
      rw [fS_1, if_neg z] at q
      rcases fS_val (tr := tr) (xs := xs) (ys := ys) (n := n) (w := w) (a0 := a0) mi g with q1 | ⟨t, q1, q2⟩
      · rw [q1] at q; exact nI_ne9 (by omega) q.symm
      · rw [q2] at q; have := (nI_eq (by omega) (by omega)).1 q; omega
    rw [e1]
    by_cases y : litB (fS tr xs ys n w a0 mi) g = true
    · rw [y]; simp
    · have h1 : fS tr xs ys n w a0 mi g = (-9) := Classical.byContradiction (fun q => y (litB_iff.2 q))
      by_cases y2 : anyN (rchB tr xs ys n w a0 mi g) 8 = true
      · obtain ⟨a, h3, h4⟩ := (anyN_iff _ _).1 y2
        unfold rchB at h4
        rw [Bool.and_eq_true] at h4
        have h5 := of_decide_eq_true h4.1
        have h6 := fS_al (tr := tr) (xs := xs) (ys := ys) (w := w) ha (show mi < 1000 by omega) (h := a) (by rw [h5]; exact nI_ne9 (by omega))
        by_cases y3 : tr g = tr a0
        · exact absurd (fCb_iff.2 ⟨h1, hg, a, h6.2, h5, h6.1.trans y3.symm, h4.2⟩) z
        · rw [decide_eq_false y3]; simp
      · rw [Bool.eq_false_iff.2 y2]; simp
end RING
theorem mkM_none : ∀ n, mkM (fun _ => false) n = 0
  | 0 => rfl
  | n + 1 => by rw [mkM, mkM_none n]; rfl
section SPR
variable {tr xs ys : Nat → Int32} {n : Nat} {w : Int32} {a0 : Nat}
theorem bit_lt {P : Nat → Bool} {ca h : Nat} (hca : ca = mkM P n) (q : ca.testBit h = true) : h < n := by
  rw [hca, mkM_tb, Bool.and_eq_true] at q; exact of_decide_eq_true q.1
theorem bit_rng {P : Nat → Bool} {ca h : Nat} (hca : ca = mkM P n) (q : ca.testBit h = true) : P h = true := by
  rw [hca, mkM_tb, Bool.and_eq_true] at q; exact q.2
theorem rng_bit {P : Nat → Bool} {ca h : Nat} (hca : ca = mkM P n) (hh : h < n) (q : ca.testBit h = false) : P h = false := by
  rw [hca, mkM_tb, decide_eq_true hh] at q; simpa using q
theorem spr_beg {t : Nat → Int32} {mi : Nat} (ht : ∀ h, h < 8 → t h = (if prv tr xs ys n w a0 mi h = true then fS tr xs ys n w a0 mi h else (-9))) : ∀ j, j < 8 → t j = (if prv tr xs ys n w a0 mi j = true ∨ (rng tr xs ys n w a0 mi j = true ∧ j < 0) then fS tr xs ys n w a0 mi j else (-9)) := by
  intro j hj
  rw [ht j hj]
  by_cases q : prv tr xs ys n w a0 mi j = true
  · rw [if_pos q, if_pos (Or.inl q)]
  · rw [if_neg q, if_neg (fun z => z.elim q (fun z => absurd z.2 (Nat.not_lt_zero _)))]
theorem spr_up {t : Nat → Int32} {mi h : Nat} (ht : ∀ j, j < 8 → t j = (if prv tr xs ys n w a0 mi j = true ∨ (rng tr xs ys n w a0 mi j = true ∧ j < h) then fS tr xs ys n w a0 mi j else (-9))) (hr : rng tr xs ys n w a0 mi h = true) : ∀ j, j < 8 → upd t h (nI mi) j = (if prv tr xs ys n w a0 mi j = true ∨ (rng tr xs ys n w a0 mi j = true ∧ j < h + 1) then fS tr xs ys n w a0 mi j else (-9)) := by
  intro j hj
  by_cases q : j = h
  · subst q; rw [pk_us, if_pos (Or.inr ⟨hr, by omega⟩)]; exact (of_decide_eq_true hr).symm
  · rw [pk_un q, ht j hj]
    by_cases z : prv tr xs ys n w a0 mi j = true ∨ (rng tr xs ys n w a0 mi j = true ∧ j < h)
    · rw [if_pos z, if_pos (z.elim Or.inl (fun z => Or.inr ⟨z.1, by omega⟩))]
    · rw [if_neg z, if_neg (fun y => z (y.elim Or.inl (fun y => Or.inr ⟨y.1, by omega⟩)))]
theorem spr_no {t : Nat → Int32} {mi h : Nat} (ht : ∀ j, j < 8 → t j = (if prv tr xs ys n w a0 mi j = true ∨ (rng tr xs ys n w a0 mi j = true ∧ j < h) then fS tr xs ys n w a0 mi j else (-9))) (hr : h < n → rng tr xs ys n w a0 mi h = false) (ha : a0 < n) (hm : mi < 800) : ∀ j, j < 8 → t j = (if prv tr xs ys n w a0 mi j = true ∨ (rng tr xs ys n w a0 mi j = true ∧ j < h + 1) then fS tr xs ys n w a0 mi j else (-9)) := by
  have hr2 : rng tr xs ys n w a0 mi h = false := by
    by_cases q : h < n
    · exact hr q
    · exact decide_eq_false (fun z => q (fS_al (mi := mi) ha (by omega) (by rw [z]; exact nI_ne9 (by omega))).2)
  intro j hj
  rw [ht j hj]
  by_cases z : prv tr xs ys n w a0 mi j = true ∨ (rng tr xs ys n w a0 mi j = true ∧ j < h)
  · rw [if_pos z, if_pos (z.elim Or.inl (fun z => Or.inr ⟨z.1, by omega⟩))]
  · rw [if_neg z, if_neg (fun y => z (y.elim Or.inl (fun y => Or.inr ⟨y.1, by
      rcases Nat.lt_or_ge j h with e | e
      · exact e
      · have e2 : j = h := by omega
        rw [e2, hr2] at y; exact absurd y.1 (by decide)⟩)))]
theorem spr_end {t : Nat → Int32} {mi h : Nat} (ht : ∀ j, j < 8 → t j = (if prv tr xs ys n w a0 mi j = true ∨ (rng tr xs ys n w a0 mi j = true ∧ j < h) then fS tr xs ys n w a0 mi j else (-9))) (hh : 8 ≤ h) (hm : mi < 100) : ∀ j, j < 8 → t j = (if prv tr xs ys n w a0 (mi + 1) j = true then fS tr xs ys n w a0 (mi + 1) j else (-9)) := by
  intro j hj
  rw [ht j hj, prv_s (by omega), lit_pr (by omega)]
  by_cases z : (prv tr xs ys n w a0 mi j || rng tr xs ys n w a0 mi j) = true
  · rw [if_pos z, if_pos (by rw [Bool.or_eq_true] at z; exact z.elim Or.inl (fun y => Or.inr ⟨y, by omega⟩))]
    rw [← lit_pr (by omega), litB_iff] at z
    rw [fS_mono z]
  · rw [if_neg z, if_neg (fun y => z (by rw [Bool.or_eq_true]; exact y.elim Or.inl (fun y => Or.inr y.1)))]
theorem spr_fin {t : Nat → Int32} {mi bm : Nat} (hn : n ≤ 8) (ha : a0 < n) (hm : mi ≤ 8) (hne : ∀ k, k < mi → ∃ g, g < n ∧ rng tr xs ys n w a0 k g = true) (hx : mi = 8 ∨ mkM (rng tr xs ys n w a0 mi) n = 0) (ht : ∀ h, h < 8 → t h = (if prv tr xs ys n w a0 mi h = true then fS tr xs ys n w a0 mi h else (-9))) (hb : bm = mkM (prv tr xs ys n w a0 mi) n) :
    (∀ h, h < 8 → t h = fS tr xs ys n w a0 98 h) ∧ bm = mkM (litB (fS tr xs ys n w a0 98)) n ∧ lastP (fS tr xs ys n w a0 98) n (mi - 1) := by
  obtain ⟨h1, h2, h3, h4, h5⟩ := ring_end hn ha hm hne hx
  refine ⟨fun h hh => ?_, by rw [hb]; exact mkM_congr h2, h5⟩
  rw [ht h hh, h1 h, h3 h]
  by_cases q : fS tr xs ys n w a0 mi h = (-9)
  · rw [if_neg (fun z => litB_iff.1 z q), q]
  · rw [if_pos (litB_iff.2 q)]
end SPR
