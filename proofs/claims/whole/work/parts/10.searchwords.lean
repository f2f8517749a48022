/-! rows of sorts, one behind another, and what is found among them -/
def forS {σ : Type} (f : Nat → σ → σ) : Nat → σ → σ
  | 0, a => a
  | i + 1, a => f i (forS f i a)
theorem forS_congr {σ : Type} {f g : Nat → σ → σ} : ∀ {k : Nat} {a : σ}, (∀ i x, i < k → f i x = g i x) → forS f k a = forS g k a
  | 0, _, _ => rfl
  | k + 1, a, h => by rw [forS, forS, forS_congr (k := k) (fun i x hi => h i x (by omega)), h k _ (by omega)]
theorem forS_id {σ : Type} {f : Nat → σ → σ} : ∀ {k : Nat} {a : σ}, (∀ i x, i < k → f i x = x) → forS f k a = a
  | 0, _, _ => rfl
  | k + 1, a, h => by rw [forS, forS_id (k := k) (fun i x hi => h i x (by omega)), h k _ (by omega)]
theorem forS_one {σ : Type} {f : Nat → σ → σ} {v : Nat} : ∀ {k : Nat} {a : σ}, v < k → (∀ i x, i < k → ¬ i = v → f i x = x) → forS f k a = f v a
  | 0, _, h, _ => absurd h (Nat.not_lt_zero _)
  | k + 1, a, h, hid => by
    rw [forS]
    by_cases q : k = v
    · subst q; rw [forS_id (k := k) (fun i x hi => hid i x (by omega) (by omega))]
    · rw [forS_one (k := k) (by omega) (fun i x hi => hid i x (by omega)), hid k _ (by omega) q]
/-- all rows that are allowed, the first houses' sorts slowest -/
def enumF {σ : Type} (n k : Nat) (Aw : Nat → Nat → Bool) (step : (Nat → Nat) → σ → σ) : Nat → (Nat → Nat) → σ → σ
  | 0, r, a => step r a
  | q + 1, r, a => forS (fun v b => if Aw (n - (q + 1)) v = true then enumF n k Aw step q (updN r (n - (q + 1)) v) b else b) k a
theorem updN_id {f : Nat → Nat} {i : Nat} : updN f i (f i) = f := by
  funext j
  by_cases q : j = i
  · subst q; exact updN_s
  · exact updN_n q
theorem updN_2 {f : Nat → Nat} {i x y : Nat} : updN (updN f i x) i y = updN f i y := by
  funext j
  by_cases q : j = i
  · subst q; rw [updN_s, updN_s]
  · rw [updN_n q, updN_n q, updN_n q]
theorem enumF_agree {σ : Type} {n k : Nat} {Aw : Nat → Nat → Bool} {step : (Nat → Nat) → σ → σ} : ∀ {q : Nat} {r r2 : Nat → Nat} {a : σ}, q ≤ n → (∀ j, j < n - q ∨ n ≤ j → r j = r2 j) → enumF n k Aw step q r a = enumF n k Aw step q r2 a
  | 0, r, r2, a, _, h => by
    have e : r = r2 := by funext j; exact h j (by omega)
    rw [e]
  | q + 1, r, r2, a, hq, h => by
    rw [enumF, enumF]
    refine forS_congr (fun i x _ => ?_)
    rw [enumF_agree (q := q) (by omega) (fun j hj => ?_)]
    by_cases z : j = n - (q + 1)
    · subst z; rw [updN_s, updN_s]
    · rw [updN_n z, updN_n z]; exact h j (by omega)
/-- the rows from one on, by carry -/
def runO {σ : Type} (bo : Nat → Int32) (k n : Nat) (step : (Nat → Nat) → σ → σ) : Nat → (Nat → Nat) → σ → Option σ
  | 0, _, _ => none
  | f + 1, r, a => match carry bo k n r with
    | none => some (step r a)
    | some r2 => runO bo k n step f r2 (step r a)
theorem run_pos {σ : Type} {bo : Nat → Int32} {k n : Nat} {step : (Nat → Nat) → σ → σ} {f : Nat} {r : Nat → Nat} {a F : σ} (h : runO bo k n step f r a = some F) : ∃ f2, f = f2 + 1 := by
  cases f with
  | zero => exact absurd h (by simp [runO])
  | succ f2 => exact ⟨f2, rfl⟩
theorem run_step {σ : Type} {bo : Nat → Int32} {k n : Nat} {step : (Nat → Nat) → σ → σ} {f : Nat} {r r2 : Nat → Nat} {a a2 F : σ} (h : runO bo k n step (f + 1) r a = some F) (hc : carry bo k n r = some r2) (hs : step r a = a2) : runO bo k n step f r2 a2 = some F := by
  rw [runO, hc] at h
  rw [← hs]; exact h
theorem run_end {σ : Type} {bo : Nat → Int32} {k n : Nat} {step : (Nat → Nat) → σ → σ} {f : Nat} {r : Nat → Nat} {a a2 F : σ} (h : runO bo k n step (f + 1) r a = some F) (hc : carry bo k n r = none) (hs : step r a = a2) : a2 = F := by
  rw [runO, hc] at h
  rw [← hs]; exact Option.some.inj h
def contO {σ : Type} (bo : Nat → Int32) (k n : Nat) (step : (Nat → Nat) → σ → σ) (f : Nat) (c : Option (Nat → Nat)) (a : σ) : Option σ := match c with
  | none => some a
  | some r => runO bo k n step f r a
def AwM (bo : Nat → Int32) (h v : Nat) : Bool := decide (bo h = (-9)) || decide (bo h = nI v)
theorem run_block {σ : Type} {bo : Nat → Int32} {k n : Nat} (hk : k ≤ 4) (step : (Nat → Nat) → σ → σ) (hk0 : n = 0 ∨ 0 < k) (hbo : ∀ h, h < n → bo h = (-9) ∨ ∃ v, v < k ∧ bo h = nI v) :
    ∀ q, q ≤ n → ∃ cost, ∀ (f : Nat) (r : Nat → Nat) (a : σ), (∀ j, n - q ≤ j → j < n → (bo j = (-9) → r j = 0) ∧ ∀ v, bo j = nI v → v < k → r j = v) →
      runO bo k n step (f + cost) r a = contO bo k n step f (carry bo k (n - q) r) (enumF n k (AwM bo) step q r a) := by
  intro q
  induction q with
  | zero =>
    intro _
    refine ⟨1, fun f r a _ => ?_⟩
    show runO bo k n step (f + 1) r a = contO bo k n step f (carry bo k n r) (step r a)
    rw [runO]
    cases carry bo k n r <;> rfl
  | succ q ih =>
    intro hq
    obtain ⟨c1, ihc⟩ := ih (by omega)
    have hh : n - q = (n - (q + 1)) + 1 := by omega
    have hlt : n - (q + 1) < n := by omega
    rcases hbo (n - (q + 1)) hlt with hb | ⟨v, hv, hb⟩
    · refine ⟨k * c1, fun f r a hmin => ?_⟩
      have hr0 : r (n - (q + 1)) = 0 := (hmin _ (Nat.le_refl _) hlt).1 hb
      have hkp : 0 < k := hk0.resolve_left (by omega)
      have e1 : enumF n k (AwM bo) step (q + 1) r a = forS (fun v b => enumF n k (AwM bo) step q (updN r (n - (q + 1)) v) b) k a := by
        rw [enumF]
        refine forS_congr (fun i x _ => ?_)
        rw [if_pos (by unfold AwM; rw [decide_eq_true hb]; rfl)]
      rw [e1]
      have inner : ∀ d i, i + (d + 1) = k → runO bo k n step (f + (d + 1) * c1) (updN r (n - (q + 1)) i) (forS (fun v b => enumF n k (AwM bo) step q (updN r (n - (q + 1)) v) b) i a) = contO bo k n step f (carry bo k (n - (q + 1)) r) (forS (fun v b => enumF n k (AwM bo) step q (updN r (n - (q + 1)) v) b) k a) := by
        intro d
        induction d with
        | zero =>
          intro i hi
          have hm : ∀ j, n - q ≤ j → j < n → (bo j = (-9) → updN r (n - (q + 1)) i j = 0) ∧ ∀ v, bo j = nI v → v < k → updN r (n - (q + 1)) i j = v := by
            intro j h1 h2
            rw [updN_n (by omega)]
            exact hmin j (by omega) h2
          rw [show (0 + 1) * c1 = c1 by omega, ihc f _ _ hm, hh, carry_c hb (by rw [updN_s]; omega), updN_2]
          have e2 : updN r (n - (q + 1)) 0 = r := by rw [← hr0]; exact updN_id
          rw [e2]
          have hi2 : k = i + 1 := by omega
          rw [hi2, forS]
        | succ d ihd =>
          intro i hi
          have hm : ∀ j, n - q ≤ j → j < n → (bo j = (-9) → updN r (n - (q + 1)) i j = 0) ∧ ∀ v, bo j = nI v → v < k → updN r (n - (q + 1)) i j = v := by
            intro j h1 h2
            rw [updN_n (by omega)]
            exact hmin j (by omega) h2
          rw [show f + (d + 1 + 1) * c1 = (f + (d + 1) * c1) + c1 by rw [Nat.succ_mul]; omega, ihc _ _ _ hm, hh, carry_s hb (by rw [updN_s]; omega), updN_s, updN_2]
          show runO bo k n step (f + (d + 1) * c1) (updN r (n - (q + 1)) (i + 1)) (forS (fun v b => enumF n k (AwM bo) step q (updN r (n - (q + 1)) v) b) (i + 1) a) = _
          exact ihd (i + 1) (by omega)
      have e3 := inner (k - 1) 0 (by omega)
      have e2 : updN r (n - (q + 1)) 0 = r := by rw [← hr0]; exact updN_id
      rw [e2, show k - 1 + 1 = k by omega] at e3
      exact e3
    · refine ⟨c1, fun f r a hmin => ?_⟩
      have hrv : r (n - (q + 1)) = v := (hmin _ (Nat.le_refl _) hlt).2 v hb hv
      have hm : ∀ j, n - q ≤ j → j < n → (bo j = (-9) → r j = 0) ∧ ∀ v, bo j = nI v → v < k → r j = v := fun j h1 h2 => hmin j (by omega) h2
      rw [ihc f r a hm, hh, carry_b (by rw [hb]; exact nI_ne9 (by omega))]
      congr 1
      rw [enumF, forS_one hv (fun i x hi hne => ?_)]
      · rw [if_pos (by unfold AwM; rw [decide_eq_true hb, Bool.or_true])]
        rw [← hrv, updN_id]
      · rw [if_neg]
        unfold AwM
        rw [hb, decide_eq_false (nI_ne9 (by omega)), decide_eq_false (fun z => hne ((nI_eq (by omega) (by omega)).1 z).symm)]
        decide
def z0 : Nat → Nat := fun _ => 0
/-- all allowed rows' steps; none, if there is no row -/
def rowsF {σ : Type} (bo : Nat → Int32) (n k : Nat) (step : (Nat → Nat) → σ → σ) (a : σ) : σ := if n = 0 ∨ 0 < k then enumF n k (AwM bo) step n z0 a else a
theorem start_ok {σ : Type} {bo t : Nat → Int32} {n k : Nat} {mo : Bool} (hn : n ≤ 8) (hk : k ≤ 4) (step : (Nat → Nat) → σ → σ) (a : σ) (hbo : ∀ h, h < n → bo h = (-9) ∨ ∃ v, v < k ∧ bo h = nI v) (h : mo = decide (n = 0 ∨ 0 < k) ∧ ∀ h, h < n → t h = (if bo h = (-9) then 0 else bo h)) :
    ∃ (r : Nat → Nat) (f : Nat), (mo = true → runO bo k n step f r a = some (rowsF bo n k step a) ∧ (∀ j, j < n → t j = nI (r j)) ∧ ∀ j, j < n → r j < 8) ∧ (mo = false → a = rowsF bo n k step a) := by
  obtain ⟨h1, h2⟩ := h
  by_cases q : n = 0 ∨ 0 < k
  · obtain ⟨cost, hc⟩ := run_block hk step q hbo n (Nat.le_refl n)
    have hr : ∀ j, j < n → t j = nI (t j).toNatClampNeg ∧ (t j).toNatClampNeg < 8 ∧ (bo j = (-9) → (t j).toNatClampNeg = 0) ∧ ∀ v, bo j = nI v → v < k → (t j).toNatClampNeg = v := by
      intro j hj
      rw [h2 j hj]
      rcases hbo j hj with hb | ⟨v, hv, hb⟩
      · rw [if_pos hb]
        refine ⟨rfl, by decide, fun _ => rfl, fun v hv hv2 => absurd (hb.symm.trans hv).symm (nI_ne9 (by omega))⟩
      · have h9 : ¬ bo j = (-9) := by rw [hb]; exact nI_ne9 (by omega)
        rw [if_neg h9, hb, tn_nI (by omega)]
        exact ⟨rfl, by omega, fun z => absurd z (nI_ne9 (by omega)), fun v2 z hv2 => (nI_eq (by omega) (by omega)).1 z⟩
    refine ⟨fun j => if j < n then (t j).toNatClampNeg else 0, 0 + cost, fun _ => ⟨?_, fun j hj => ?_, fun j hj => ?_⟩, fun z => ?_⟩
    · rw [hc 0 _ a (fun j _ hj => ?_), Nat.sub_self]
      · show some _ = some _
        rw [rowsF, if_pos q]
        congr 1
        exact enumF_agree (Nat.le_refl n) (fun j hj => if_neg (by omega))
      · show (bo j = (-9) → (if j < n then (t j).toNatClampNeg else 0) = 0) ∧ ∀ v, bo j = nI v → v < k → (if j < n then (t j).toNatClampNeg else 0) = v
        rw [if_pos hj]; exact (hr j hj).2.2
    · show t j = nI (if j < n then (t j).toNatClampNeg else 0)
      rw [if_pos hj]; exact (hr j hj).1
    · show (if j < n then (t j).toNatClampNeg else 0) < 8
      rw [if_pos hj]; exact (hr j hj).2.1
    · rw [h1, decide_eq_true q] at z; exact absurd z (by decide)
  · refine ⟨z0, 0, fun z => ?_, fun _ => ?_⟩
    · rw [h1, decide_eq_false q] at z; exact absurd z (by decide)
    · rw [rowsF, if_neg q]
theorem brN_le (xs ys tr : Nat → Int32) (sp : Int32) : ∀ {n : Nat}, n ≤ 8 → brN xs ys tr sp n ≤ 64 := by
  have key : ∀ n, brN xs ys tr sp n ≤ n * n := by
    intro n
    induction n with
    | zero => exact Nat.le_refl 0
    | succ n ih =>
      have := cntB_le (fun b => isbr xs ys tr sp n b) n
      rw [brN, Nat.succ_mul, Nat.mul_succ]; omega
  intro n hn
  exact Nat.le_trans (key n) (Nat.mul_le_mul hn hn)
/-- a row as the reference's numbers -/
abbrev rI (r : Nat → Nat) : Nat → Int32 := fun j => nI (r j)
def stC (xs ys pr : Nat → Int32) (sp : Int32) (n : Nat) (r : Nat → Nat) (a : Int32 × (Nat → Nat)) : Int32 × (Nat → Nat) :=
  if brN xs ys (rI r) sp n = 0 ∧ (a.1 = (-9) ∨ sumI (fun h => pr (r h)) n < a.1) then (sumI (fun h => pr (r h)) n, r) else a
theorem stC_y {xs ys pr : Nat → Int32} {sp : Int32} {n : Nat} {r bf : Nat → Nat} {lst : Int32} (h1 : brN xs ys (rI r) sp n = 0) (h2 : lst = (-9) ∨ sumI (fun h => pr (r h)) n < lst) : stC xs ys pr sp n r (lst, bf) = (sumI (fun h => pr (r h)) n, r) := if_pos ⟨h1, h2⟩
theorem stC_n1 {xs ys pr : Nat → Int32} {sp : Int32} {n : Nat} {r bf : Nat → Nat} {lst : Int32} (h1 : ¬ brN xs ys (rI r) sp n = 0) : stC xs ys pr sp n r (lst, bf) = (lst, bf) := if_neg (fun q => h1 q.1)
theorem stC_n2 {xs ys pr : Nat → Int32} {sp : Int32} {n : Nat} {r bf : Nat → Nat} {lst : Int32} (h2 : ¬ lst = (-9)) (h3 : lst ≤ sumI (fun h => pr (r h)) n) : stC xs ys pr sp n r (lst, bf) = (lst, bf) := if_neg (fun q => q.2.elim h2 (fun z => absurd z (Int32.not_lt.2 h3)))
def aCheap (n k : Nat) (xs ys bo pr : Nat → Int32) (sp h : Int32) : Int32 :=
  if inr sp 0 1 = true then (if h = (-1) ∨ inb h n = true then (if (rowsF bo n k (stC xs ys pr sp n) ((-9), z0)).1 = (-9) then (-9) else if 0 ≤ h then nI ((rowsF bo n k (stC xs ys pr sp n) ((-9), z0)).2 (tn h)) else (rowsF bo n k (stC xs ys pr sp n) ((-9), z0)).1) else (-1)) else (-1)
def stW (xs ys : Nat → Int32) (sp : Int32) (n : Nat) (r : Nat → Nat) (a : Nat) : Nat := a + (if brN xs ys (rI r) sp n = 0 then 1 else 0)
def aWays (n k : Nat) (xs ys bo : Nat → Int32) (sp : Int32) : Int32 := if inr sp 0 1 = true then nI (rowsF bo n k (stW xs ys sp n) 0) else (-1)
def stM (xs ys : Nat → Int32) (sp : Int32) (n h : Nat) (r : Nat → Nat) (a : Int32) : Int32 := a ||| (if brN xs ys (rI r) sp n = 0 then (1 : Int32) <<< (nI (r h) &&& 31) else 0)
def one4 (v : Int32) : Int32 := if v = 1 then 0 else if v = 2 then 1 else if v = 4 then 2 else if v = 8 then 3 else (-9)
def aMust (n k : Nat) (xs ys bo : Nat → Int32) (sp h : Int32) : Int32 := if inr sp 0 1 = true then (if inb h n = true then one4 (rowsF bo n k (stM xs ys sp n (tn h)) 0) else (-1)) else (-1)
def othN (rf : Nat → Int32) (h : Nat) (r : Nat → Nat) (n : Nat) : Nat := cntB (fun j => !decide (j = h) && !decide (nI (r j) = rf j)) n
def stG (xs ys rf : Nat → Int32) (sp : Int32) (n h : Nat) (v : Int32) (r : Nat → Nat) (a : Int32 × (Nat → Nat)) : Int32 × (Nat → Nat) :=
  if (nI (r h) = v ∧ (a.1 = (-9) ∨ nI (othN rf h r n) < a.1)) ∧ brN xs ys (rI r) sp n = 0 then (nI (othN rf h r n), r) else a
theorem stG_n {xs ys rf : Nat → Int32} {sp v : Int32} {n h : Nat} {r bf : Nat → Nat} {lst : Int32} (q : ¬ ((nI (r h) = v ∧ (lst = (-9) ∨ nI (othN rf h r n) < lst)) ∧ brN xs ys (rI r) sp n = 0)) : stG xs ys rf sp n h v r (lst, bf) = (lst, bf) := if_neg q
theorem stG_y {xs ys rf : Nat → Int32} {sp v : Int32} {n h : Nat} {r bf : Nat → Nat} {lst : Int32} (h1 : nI (r h) = v) (h2 : lst = (-9) ∨ nI (othN rf h r n) < lst) (h3 : brN xs ys (rI r) sp n = 0) : stG xs ys rf sp n h v r (lst, bf) = (nI (othN rf h r n), r) := if_pos ⟨⟨h1, h2⟩, h3⟩
theorem stG_yy {xs ys rf : Nat → Int32} {sp v : Int32} {n h cn : Nat} {r bf : Nat → Nat} {lst : Int32} (ho : cn = othN rf h r n) (h1 : nI (r h) = v) (h2 : lst = (-9) ∨ nI cn < lst) (h3 : brN xs ys (rI r) sp n = 0) : stG xs ys rf sp n h v r (lst, bf) = (nI cn, r) := by
  rw [ho] at h2 ⊢; exact stG_y h1 h2 h3
theorem oth_t {rf : Nat → Int32} {r : Nat → Nat} {h i : Nat} (h1 : ¬ i = h) (h2 : ¬ nI (r i) = rf i) : (!decide (i = h) && !decide (nI (r i) = rf i)) = true := by rw [decide_eq_false h1, decide_eq_false h2]; rfl
theorem oth_f1 {rf : Nat → Int32} {r : Nat → Nat} {h i : Nat} (h1 : i = h) : ¬ (!decide (i = h) && !decide (nI (r i) = rf i)) = true := by rw [decide_eq_true h1]; simp
theorem oth_f2 {rf : Nat → Int32} {r : Nat → Nat} {h i : Nat} (h2 : nI (r i) = rf i) : ¬ (!decide (i = h) && !decide (nI (r i) = rf i)) = true := by rw [decide_eq_true h2]; simp
theorem chg_t {P : Prop} [Decidable P] {st_ st2 b : Bool} (h1 : st_ = decide P) (h2 : st2 = (st_ || b)) (h3 : st2 = true) : P ∨ b = true := by
  rw [h2, h1, Bool.or_eq_true, decide_eq_true_eq] at h3; exact h3
theorem chg_f {P : Prop} [Decidable P] {st_ st2 b : Bool} (h1 : st_ = decide P) (h2 : st2 = (st_ || b)) (h3 : st2 = false) : ¬ (P ∨ b = true) := by
  intro q
  rw [h2, h1] at h3
  rcases q with q | q
  · rw [decide_eq_true q] at h3; exact absurd h3 (by simp)
  · rw [q, Bool.or_true] at h3; exact absurd h3 (by decide)
def aChange (n k : Nat) (xs ys rf bo : Nat → Int32) (h v sp g : Int32) : Int32 :=
  if inb h n = true then (if inb v k = true then (if inr sp 0 1 = true then (if g = (-1) ∨ inb g n = true then
    (if (¬ bo (tn h) = (-9) ∧ ¬ bo (tn h) = v) ∨ anyN (fun j => decide (rf j = (-9))) n = true then (-2)
     else if (rowsF bo n k (stG xs ys rf sp n (tn h) v) ((-9), z0)).1 = (-9) then (-9) else if 0 ≤ g then nI ((rowsF bo n k (stG xs ys rf sp n (tn h) v) ((-9), z0)).2 (tn g)) else (rowsF bo n k (stG xs ys rf sp n (tn h) v) ((-9), z0)).1)
    else (-1)) else (-1)) else (-1)) else (-1)
