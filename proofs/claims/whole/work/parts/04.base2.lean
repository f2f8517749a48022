/-! small words for numbers -/
def bb (b : Bool) : Int32 := if b then 1 else 0
theorem nar_bb (b : Bool) : narrow .boolean (.int (bb b)) = .int (bb b) := by cases b <;> rfl
theorem fit_bb (b : Bool) : fits .boolean (.int (bb b)) = true := by cases b <;> rfl
theorem bb_eq0 {b : Bool} (h : bb b = 0) : b = false := by cases b with
  | false => rfl
  | true => exact absurd h (by decide)
theorem bb_neq0 {b : Bool} (h : ¬ bb b = 0) : b = true := by cases b with
  | true => rfl
  | false => exact absurd rfl h
theorem bbT {P : Prop} [Decidable P] (h : P) : (1 : Int32) = bb (decide P) := by rw [decide_eq_true h]; rfl
theorem bbF {P : Prop} [Decidable P] (h : ¬ P) : (0 : Int32) = bb (decide P) := by rw [decide_eq_false h]; rfl
def xabs (v : Int32) : Int32 := if 0 ≤ v then v else 0 - v
def xmin (x y : Int32) : Int32 := if y < x then y else x
def xmax (x y : Int32) : Int32 := if x < y then y else x
abbrev inb (h : Int32) (n : Nat) : Bool := decide (0 ≤ h ∧ h < nI n)
theorem inb_nI {h : Int32} {n : Nat} (hn : n < 2 ^ 31) (q : inb h n = true) : ∃ j : Nat, j < n ∧ h = nI j := by
  obtain ⟨h1, h2⟩ := of_decide_eq_true q
  obtain ⟨j, hj, rfl⟩ := nI_of (Int32.not_lt.2 h1)
  exact ⟨j, (nI_ltI hj hn).1 h2, rfl⟩
theorem inb_t {j n : Nat} (hn : n < 2 ^ 31) (h : j < n) : inb (nI j) n = true := decide_eq_true ⟨nI_pos' (Nat.lt_trans h hn), nI_lt h hn⟩
/-- a set of numbers as bits -/
def mkM (P : Nat → Bool) : Nat → Nat
  | 0 => 0
  | i + 1 => mkM P i + (if P i = true then 2 ^ i else 0)
theorem mkM_lt (P : Nat → Bool) : ∀ i, mkM P i < 2 ^ i
  | 0 => by simp [mkM]
  | i + 1 => by
    have h := mkM_lt P i
    have e : 2 ^ (i + 1) = 2 * 2 ^ i := by rw [Nat.pow_succ]; omega
    show mkM P i + _ < _
    by_cases q : P i = true
    · rw [if_pos q]; omega
    · rw [if_neg q]; omega
theorem or1_all : ∀ i : Fin 8, ∀ b : Fin 128, b.val < 2 ^ i.val → nI b.val ||| ((1 : Int32) <<< (nI i.val &&& 31)) = nI (b.val + 2 ^ i.val) := by decide +kernel
theorem or1 {b i : Nat} (h : b < 2 ^ i) (hi : i < 8) : nI b ||| ((1 : Int32) <<< (nI i &&& 31)) = nI (b + 2 ^ i) := by
  have h2 : b < 128 := Nat.lt_of_lt_of_le h (Nat.pow_le_pow_right (by omega) (show i ≤ 7 by omega))
  exact or1_all ⟨i, hi⟩ ⟨b, h2⟩ h
theorem sh1_all : ∀ i : Fin 31, ((1 : Int32) <<< (nI i.val &&& 31)) = nI (2 ^ i.val) := by decide +kernel
theorem sh1 {i : Nat} (hi : i < 31) : ((1 : Int32) <<< (nI i &&& 31)) = nI (2 ^ i) := sh1_all ⟨i, hi⟩
def arb (xs ys : Nat → Int32) (h : Nat) (far : Int32) (g : Nat) : Bool := decide (xabs (xs g - xs h) + xabs (ys g - ys h) = far ∧ (xabs (xs g - xs h) = 0 ∨ xabs (ys g - ys h) = 0))
theorem arb_t {xs ys : Nat → Int32} {h g : Nat} {far : Int32} (h1 : xabs (xs g - xs h) + xabs (ys g - ys h) = far) (h2 : xabs (xs g - xs h) = 0 ∨ xabs (ys g - ys h) = 0) : arb xs ys h far g = true := decide_eq_true ⟨h1, h2⟩
theorem arb_f1 {xs ys : Nat → Int32} {h g : Nat} {far : Int32} (h1 : ¬ xabs (xs g - xs h) + xabs (ys g - ys h) = far) : ¬ arb xs ys h far g = true := fun q => h1 (of_decide_eq_true q).1
theorem arb_f2 {xs ys : Nat → Int32} {h g : Nat} {far : Int32} (h1 : ¬ xabs (xs g - xs h) = 0) (h2 : ¬ xabs (ys g - ys h) = 0) : ¬ arb xs ys h far g = true := fun q => (of_decide_eq_true q).2.elim h1 h2
theorem fa_and (a b : Nat) : nI a &&& nI b = nI (a &&& b) := by
  apply Int32.toBitVec_inj.1
  show BitVec.ofNat 32 a &&& BitVec.ofNat 32 b = BitVec.ofNat 32 (a &&& b)
  apply BitVec.eq_of_getLsbD_eq
  intro i hi
  simp [hi]
theorem fa_or (a b : Nat) : nI a ||| nI b = nI (a ||| b) := by
  apply Int32.toBitVec_inj.1
  show BitVec.ofNat 32 a ||| BitVec.ofNat 32 b = BitVec.ofNat 32 (a ||| b)
  apply BitVec.eq_of_getLsbD_eq
  intro i hi
  simp [hi]
def prOf (f : Nat → Int32) (k : Nat) (s : Int32) : Int32 := if inb s k = true then f s.toNatClampNeg else 0
theorem prOf_t {f : Nat → Int32} {k j : Nat} (h : j < k) (hk : k < 2 ^ 31) : prOf f k (nI j) = f j := by rw [prOf, if_pos (inb_t hk h), nI_clamp (Nat.lt_trans h hk)]
theorem prOf_f {f : Nat → Int32} {k : Nat} {s : Int32} (h : inb s k = false) : prOf f k s = 0 := by rw [prOf, if_neg (by rw [h]; decide)]
theorem mkM_congr {P Q : Nat → Bool} : ∀ {n : Nat}, (∀ g, g < n → P g = Q g) → mkM P n = mkM Q n
  | 0, _ => rfl
  | n + 1, h => by rw [mkM, mkM, h n (Nat.lt_succ_self n), mkM_congr (fun g hg => h g (Nat.lt_succ_of_lt hg))]
def fstB (xs ys : Nat → Int32) (x y : Int32) (n m : Nat) : Prop := (m = 0 ∧ ∀ g, g < n → ¬ (xs g = x ∧ ys g = y)) ∨ ∃ i, i < n ∧ m = 2 ^ i ∧ (xs i = x ∧ ys i = y) ∧ ∀ g, g < i → ¬ (xs g = x ∧ ys g = y)
def nearb (xs ys : Nat → Int32) (h : Nat) (sp : Int32) (g : Nat) : Bool := arb xs ys h 1 g || (decide (sp = 1) && arb xs ys h 2 g)
theorem nearb_f {xs ys : Nat → Int32} {h g : Nat} {sp : Int32} (hs : ¬ sp = 1) : nearb xs ys h sp g = arb xs ys h 1 g := by simp [nearb, hs]
theorem mkM_8 (P : Nat → Bool) : ∀ {n : Nat}, n ≤ 8 → mkM P n < 256 := fun {n} h => Nat.lt_of_lt_of_le (mkM_lt P n) (by have := Nat.pow_le_pow_right (n := 2) (by omega) h; simpa using this)
theorem mkM_256 {P : Nat → Bool} {n : Nat} (h : n ≤ 8) : mkM P n < 256 := mkM_8 P h
theorem mkM_or (P Q : Nat → Bool) : ∀ n : Nat, mkM P n ||| mkM Q n = mkM (fun g => P g || Q g) n
  | 0 => by simp [mkM]
  | n + 1 => by
    have ih := mkM_or P Q n
    have h1 := mkM_lt P n
    have h2 := mkM_lt Q n
    have key : ∀ (a b : Nat) (p q : Bool), a < 2 ^ n → b < 2 ^ n → (a + (if p = true then 2 ^ n else 0)) ||| (b + (if q = true then 2 ^ n else 0)) = (a ||| b) + (if (p || q) = true then 2 ^ n else 0) := by
      intro a b p q ha hb
      have e : ∀ (c : Nat) (r : Bool), c < 2 ^ n → c + (if r = true then 2 ^ n else 0) = 2 ^ n * r.toNat + c := by
        intro c r hc; cases r <;> simp [Nat.add_comm]
      have hab : a ||| b < 2 ^ n := Nat.or_lt_two_pow ha hb
      rw [e a p ha, e b q hb, e (a ||| b) (p || q) hab]
      apply Nat.eq_of_testBit_eq
      intro i
      rw [Nat.testBit_or, Nat.testBit_two_pow_mul_add _ ha, Nat.testBit_two_pow_mul_add _ hb, Nat.testBit_two_pow_mul_add _ hab]
      by_cases hi : i < n
      · simp [hi, Nat.testBit_or]
      · simp only [hi, if_false]
        cases p <;> cases q <;> cases hx : i - n <;> simp
    rw [mkM, mkM, mkM, key _ _ _ _ h1 h2, ih]
theorem near_or {xs ys : Nat → Int32} {h : Nat} {sp : Int32} {n : Nat} (_ : n ≤ 8) (hs : sp = 1) : nI (mkM (fun g => arb xs ys h 1 g) n) ||| nI (mkM (fun g => arb xs ys h 2 g) n) = nI (mkM (fun g => nearb xs ys h sp g) n) := by
  rw [fa_or, mkM_or]
  exact congrArg nI (mkM_congr (fun g _ => by simp [nearb, hs]))
def popc (m : Nat) : Nat := m % 2 + m / 2 % 2 + m / 4 % 2 + m / 8 % 2 + m / 16 % 2 + m / 32 % 2 + m / 64 % 2 + m / 128 % 2
theorem popc_le8 (m : Nat) : popc m ≤ 8 := by unfold popc; omega
def cntB (P : Nat → Bool) : Nat → Nat
  | 0 => 0
  | i + 1 => cntB P i + (if P i = true then 1 else 0)
theorem cntB_le (P : Nat → Bool) : ∀ i, cntB P i ≤ i
  | 0 => Nat.le_refl 0
  | i + 1 => by
    have := cntB_le P i
    show cntB P i + _ ≤ i + 1
    split <;> omega
theorem popc_cnt {P : Nat → Bool} {n : Nat} (h : n ≤ 8) : popc (mkM P n) = cntB P n := by
  have key : ∀ p0 p1 p2 p3 p4 p5 p6 p7 : Bool, ∀ n : Fin 9, popc (mkM (fun i => ([p0, p1, p2, p3, p4, p5, p6, p7] : List Bool).getD i false) n.val) = cntB (fun i => ([p0, p1, p2, p3, p4, p5, p6, p7] : List Bool).getD i false) n.val := by decide +kernel
  have e : ∀ g, g < n → P g = (fun i => ([P 0, P 1, P 2, P 3, P 4, P 5, P 6, P 7] : List Bool).getD i false) g := by
    intro g hg
    rcases (show g = 0 ∨ g = 1 ∨ g = 2 ∨ g = 3 ∨ g = 4 ∨ g = 5 ∨ g = 6 ∨ g = 7 by omega) with rfl | rfl | rfl | rfl | rfl | rfl | rfl | rfl <;> rfl
  have e2 : ∀ m, m ≤ n → cntB P m = cntB (fun i => ([P 0, P 1, P 2, P 3, P 4, P 5, P 6, P 7] : List Bool).getD i false) m := by
    intro m
    induction m with
    | zero => intro _; rfl
    | succ m ih => intro hm; rw [cntB, cntB, ih (by omega), e m (by omega)]
  rw [mkM_congr e, e2 n (Nat.le_refl n)]
  exact key _ _ _ _ _ _ _ _ ⟨n, by omega⟩
theorem popc_le {n : Nat} (h : n ≤ 8) (P : Nat → Bool) : popc (mkM P n) ≤ n := by rw [popc_cnt h]; exact cntB_le P n
def bc_s (x k : Int32) : Int32 := (x.toUInt32 >>> (k.toUInt32 &&& Int32.toUInt32 31)).toInt32
def bc_F (x : Int32) : Int32 :=
  let x1 := x - (bc_s x 1 &&& 1431655765)
  let x2 := (x1 &&& 858993459) + (bc_s x1 2 &&& 858993459)
  let x3 := (x2 + bc_s x2 4) &&& 252645135
  let x4 := x3 + bc_s x3 8
  let x5 := x4 + bc_s x4 16
  x5 &&& 63
theorem bitc_all : ∀ m : Fin 256, bc_F (nI m.val) = nI (popc m.val) := by decide +kernel
theorem bitc_ok {m : Nat} (h : m < 256) : bc_F (nI m) = nI (popc m) := bitc_all ⟨m, h⟩
def sumN (f : Nat → Nat) : Nat → Nat
  | 0 => 0
  | i + 1 => sumN f i + f i
theorem sumN_le (f : Nat → Nat) (c : Nat) (h : ∀ i, f i ≤ c) : ∀ i, sumN f i ≤ i * c
  | 0 => by simp [sumN]
  | i + 1 => by
    have h1 := sumN_le f c h i
    have h2 := h i
    show sumN f i + f i ≤ (i + 1) * c
    rw [Nat.succ_mul]; omega
theorem sum_small {n i : Nat} (hn : n ≤ 8) (hi : i ≤ n) (f : Nat → Nat) (h : ∀ g, f g ≤ 8) : sumN f i < 2 ^ 31 := by
  have h1 := sumN_le f 8 h i
  omega
def unl (xs ys rf : Nat → Int32) (sp : Int32) (n : Nat) (h : Nat) : Nat := if rf h = (-9) then 0 else popc (mkM (fun g => nearb xs ys h sp g) n &&& mkM (fun g => decide (rf g = rf h)) n)
theorem unl_le8 (xs ys rf : Nat → Int32) (sp : Int32) (n h : Nat) : unl xs ys rf sp n h ≤ 8 := by
  unfold unl
  split
  · omega
  · exact popc_le8 _
theorem and_256 {a b : Nat} (h : a < 256) : a &&& b < 256 := Nat.lt_of_le_of_lt Nat.and_le_left h
