/-! words of the reference's methods -/
def inr (v a b : Int32) : Bool := decide (a ≤ v ∧ v ≤ b)
def xsz (v : Int32) : Int32 := if v < 0 then -v else v
def bAt (T : Nat → Int32) (len j : Nat) : Int32 := if j < len then T j else (-1)
def tchb (xs ys : Nat → Int32) (a b : Nat) : Bool := decide (xsz (xs a - xs b) + xsz (ys a - ys b) = 1)
def spkb (xs ys : Nat → Int32) (a b : Nat) : Bool := decide ((xs a = xs b ∧ xsz (ys a - ys b) = 2) ∨ (ys a = ys b ∧ xsz (xs a - xs b) = 2))
theorem inr_inb {h : Int32} {n : Nat} (hn : n ≤ 8) : inr h 0 (nI n - 1) = inb h n := by
  have key : (0 ≤ h ∧ h ≤ nI n - 1) ↔ (0 ≤ h ∧ h < nI n) := by
    have e1 : (nI n - 1).toInt = (n : Int) - 1 := by
      have := pk_sub_toInt (a := n) (b := 1) (by omega) (by omega)
      exact this
    have e2 : (nI n).toInt = (n : Int) := nI_toInt (by omega)
    refine and_congr_right (fun _ => ?_)
    rw [Int32.le_iff_toInt_le, Int32.lt_iff_toInt_lt, e1, e2]
    omega
  exact decide_eq_decide.2 key
def isbr (xs ys tr : Nat → Int32) (sp : Int32) (a b : Nat) : Bool := (tchb xs ys a b || (decide (sp = 1) && spkb xs ys a b)) && (decide (¬ tr a = (-9)) && decide (tr a = tr b))
def brN (xs ys tr : Nat → Int32) (sp : Int32) : Nat → Nat
  | 0 => 0
  | a + 1 => brN xs ys tr sp a + cntB (fun b => isbr xs ys tr sp a b) a
def sumI (f : Nat → Int32) : Nat → Int32
  | 0 => 0
  | i + 1 => sumI f i + f i
theorem upd_ext {t f : Nat → Int32} {i : Nat} (h : ∀ j, j < i → t j = f j) : ∀ j, j < i + 1 → upd t i (f i) j = f j := by
  intro j hj
  by_cases q : j = i
  · subst q; exact pk_us
  · rw [pk_un q]; exact h j (by omega)
theorem upd_ext2 {t f : Nat → Int32} {i : Nat} {x : Int32} (h : ∀ j, j < i → t j = f j) (hx : x = f i) : ∀ j, j < i + 1 → upd t i x j = f j := by subst hx; exact upd_ext h
def updN (f : Nat → Nat) (k x : Nat) : Nat → Nat := fun j => if j = k then x else f j
theorem updN_s {f : Nat → Nat} {k x : Nat} : updN f k x k = x := if_pos rfl
theorem updN_n {f : Nat → Nat} {k x j : Nat} (h : ¬ j = k) : updN f k x j = f j := if_neg h
/-- the next row of sorts: the houses from h on have come to their ends -/
def carry (bo : Nat → Int32) (k : Nat) : Nat → (Nat → Nat) → Option (Nat → Nat)
  | 0, _ => none
  | h + 1, r => if bo h = (-9) then (if r h + 1 < k then some (updN r h (r h + 1)) else carry bo k h (updN r h 0)) else carry bo k h r
theorem carry_b {bo : Nat → Int32} {k h : Nat} {r : Nat → Nat} (q : ¬ bo h = (-9)) : carry bo k (h + 1) r = carry bo k h r := if_neg q
theorem carry_s {bo : Nat → Int32} {k h : Nat} {r : Nat → Nat} (q : bo h = (-9)) (q2 : r h + 1 < k) : carry bo k (h + 1) r = some (updN r h (r h + 1)) := by rw [carry, if_pos q, if_pos q2]
theorem carry_c {bo : Nat → Int32} {k h : Nat} {r : Nat → Nat} (q : bo h = (-9)) (q2 : ¬ r h + 1 < k) : carry bo k (h + 1) r = carry bo k h (updN r h 0) := by rw [carry, if_pos q, if_neg q2]
theorem upd_nI {t : Nat → Int32} {r : Nat → Nat} {n i x : Nat} (h : ∀ j, j < n → t j = nI (r j)) : ∀ j, j < n → upd t i (nI x) j = nI (updN r i x j) := by
  intro j hj
  by_cases q : j = i
  · subst q; rw [pk_us, updN_s]
  · rw [pk_un q, updN_n q]; exact h j hj
theorem upd_nI2 {t : Nat → Int32} {r : Nat → Nat} {n i : Nat} {y : Int32} (h : ∀ j, j < n → t j = nI (r j)) : ∀ j, j < n → upd (upd t i y) i 0 j = nI (updN r i 0 j) := by
  intro j hj
  by_cases q : j = i
  · subst q; rw [pk_us, updN_s]; rfl
  · rw [pk_un q, pk_un q, updN_n q]; exact h j hj
theorem updN_lt {r : Nat → Nat} {n i x c : Nat} (h : ∀ j, j < n → r j < c) (hx : x < c) : ∀ j, j < n → updN r i x j < c := by
  intro j hj
  by_cases q : j = i
  · subst q; rw [updN_s]; exact hx
  · rw [updN_n q]; exact h j hj
theorem dec_toInt {x : Int32} {i : Nat} (hx : x = nI i - 1) (hi : i ≤ 8) : x.toInt = (i : Int) - 1 := by
  rw [hx]; exact pk_sub_toInt (a := i) (b := 1) (by omega) (by omega)
theorem dec_pos {x : Int32} {i : Nat} (hx : x = nI i - 1) (hi : i ≤ 8) (h : ¬ x < 0) : ∃ j, i = j + 1 := by
  have e := dec_toInt hx hi
  rw [Int32.lt_iff_toInt_lt, e] at h
  refine ⟨i - 1, ?_⟩
  have h0 : (0 : Int32).toInt = 0 := rfl
  rw [h0] at h
  omega
theorem dec_zero {x : Int32} {i : Nat} (hx : x = nI i - 1) (hi : i ≤ 8) (h : x < 0) : i = 0 := by
  have e := dec_toInt hx hi
  rw [Int32.lt_iff_toInt_lt, e] at h
  have h0 : (0 : Int32).toInt = 0 := rfl
  rw [h0] at h
  omega
theorem nI_dec3 (x : Int32) : x + (-1) = x - 1 := by rw [Int32.sub_eq_add_neg]
abbrev canb (tr bu : Nat → Int32) (h : Nat) : Bool := decide (¬ tr h = (-9) ∧ 0 < bu (tr h).toNatClampNeg)
def wdx (w : Int32) : Int32 := if w = 1 then 2 else if w = 3 then (-2) else 0
def wdy (w : Int32) : Int32 := if w = 2 then 2 else if w = 4 then (-2) else 0
def thrb (xs ys : Nat → Int32) (a b : Nat) (w : Int32) : Bool := decide (0 < w ∧ xs b - xs a = wdx w ∧ ys b - ys a = wdy w)
abbrev tn (h : Int32) : Nat := h.toNatClampNeg
theorem tn_nI {j : Nat} (h : j < 2147483648) : (nI j).toNatClampNeg = j := nI_clamp h
def aHouse (n : Nat) (xs ys rf bo : Nat → Int32) (h what : Int32) : Int32 :=
  if inb h n = true then (if inr what 0 4 = true then (if what = 0 then xs (tn h) else if what = 1 then ys (tn h) else if what = 2 then rf (tn h) else if what = 3 then bo (tn h) else nI (cntB (fun b => tchb xs ys (tn h) b) n)) else (-1)) else (-1)
def aSort (k : Nat) (pr bu : Nat → Int32) (v what : Int32) : Int32 :=
  if inb v k = true then (if inr what 0 1 = true then (if what = 0 then pr (tn v) else bu (tn v)) else (-1)) else (-1)
def aWind (wd w : Int32) : Int32 := if inr w 0 4 = true then wd else (-1)
def nWind (s_ : Nat → Int32) (w : Int32) : Nat → Int32 := if inr w 0 4 = true then upd s_ 8 w else s_
def aRoof (n k : Nat) (rf bo : Nat → Int32) (h v : Int32) : Int32 :=
  if inb h n = true then (if v = (-9) then rf (tn h) else if inb v k = true then (if bo (tn h) = (-9) then rf (tn h) else if bo (tn h) = v then rf (tn h) else (-2)) else (-1)) else (-1)
def nRoof (n k : Nat) (rf bo : Nat → Int32) (h v : Int32) : Nat → Int32 :=
  if inb h n = true then (if v = (-9) then upd rf (tn h) v else if inb v k = true then (if bo (tn h) = (-9) then upd rf (tn h) v else if bo (tn h) = v then upd rf (tn h) v else rf) else rf) else rf
theorem tchb_congr {xs ys xs' ys' : Nat → Int32} {n a b : Nat} (hx : ∀ j, j < n → xs j = xs' j) (hy : ∀ j, j < n → ys j = ys' j) (ha : a < n) (hb : b < n) : tchb xs ys a b = tchb xs' ys' a b := by
  unfold tchb; rw [hx a ha, hx b hb, hy a ha, hy b hb]
theorem spkb_congr {xs ys xs' ys' : Nat → Int32} {n a b : Nat} (hx : ∀ j, j < n → xs j = xs' j) (hy : ∀ j, j < n → ys j = ys' j) (ha : a < n) (hb : b < n) : spkb xs ys a b = spkb xs' ys' a b := by
  unfold spkb; rw [hx a ha, hx b hb, hy a ha, hy b hb]
theorem cntB_congr {P Q : Nat → Bool} : ∀ {n : Nat}, (∀ g, g < n → P g = Q g) → cntB P n = cntB Q n
  | 0, _ => rfl
  | n + 1, h => by rw [cntB, cntB, h n (Nat.lt_succ_self n), cntB_congr (fun g hg => h g (Nat.lt_succ_of_lt hg))]
theorem sumN_congr {P Q : Nat → Nat} : ∀ {n : Nat}, (∀ g, g < n → P g = Q g) → sumN P n = sumN Q n
  | 0, _ => rfl
  | n + 1, h => by rw [sumN, sumN, h n (Nat.lt_succ_self n), sumN_congr (fun g hg => h g (Nat.lt_succ_of_lt hg))]
theorem sumI_congr {P Q : Nat → Int32} : ∀ {n : Nat}, (∀ g, g < n → P g = Q g) → sumI P n = sumI Q n
  | 0, _ => rfl
  | n + 1, h => by rw [sumI, sumI, h n (Nat.lt_succ_self n), sumI_congr (fun g hg => h g (Nat.lt_succ_of_lt hg))]
theorem brN_congr3 {xs ys xs' ys' t t' : Nat → Int32} {sp : Int32} {m : Nat} (hx : ∀ j, j < m → xs j = xs' j) (hy : ∀ j, j < m → ys j = ys' j) (ht : ∀ j, j < m → t j = t' j) : ∀ n, n ≤ m → brN xs ys t sp n = brN xs' ys' t' sp n
  | 0, _ => rfl
  | n + 1, h => by
    rw [brN, brN, brN_congr3 hx hy ht n (by omega)]
    congr 1
    refine cntB_congr (fun b hb => ?_)
    unfold isbr
    rw [tchb_congr hx hy (show n < m by omega) (show b < m by omega), spkb_congr hx hy (show n < m by omega) (show b < m by omega), ht n (by omega), ht b (by omega)]
theorem brN_congr {xs ys t t' : Nat → Int32} {sp : Int32} {n : Nat} (h : ∀ j, j < n → t j = t' j) : brN xs ys t sp n = brN xs ys t' sp n := brN_congr3 (fun _ _ => rfl) (fun _ _ => rfl) h n (Nat.le_refl n)
def aBreaches (n : Nat) (xs ys rf : Nat → Int32) (sp : Int32) : Int32 := if inr sp 0 1 = true then nI (brN xs ys rf sp n) else (-1)
def aSaw (n sn : Nat) (h mi : Int32) : Int32 :=
  if inb h n = true then (if mi = (-9) then (if sn = 8 then (-3) else nI (sn + 1)) else if inr mi 0 99 = true then (if sn = 8 then (-3) else nI (sn + 1)) else (-1)) else (-1)
def pSaw (sn : Nat) (s_ : Nat → Int32) (h mi : Int32) : Nat → Int32 := if sn = 8 then s_ else upd (upd (upd s_ (11 + 2 * sn) h) (11 + 2 * sn + 1) mi) 10 (nI (sn + 1))
def nSaw (n sn : Nat) (s_ : Nat → Int32) (h mi : Int32) : Nat → Int32 :=
  if inb h n = true then (if mi = (-9) then pSaw sn s_ h mi else if inr mi 0 99 = true then pSaw sn s_ h mi else s_) else s_
def aCount (n k ty : Nat) (xs ys rf : Nat → Int32) (sn what : Int32) : Int32 :=
  if what = 0 then nI n else if what = 1 then nI k else if what = 2 then nI (cntB (fun h => !decide (rf h = (-9))) n) else if what = 3 then nI (sumN (fun h => cntB (fun b => tchb xs ys h b) n) n / 2) else if what = 4 then sn else if what = 5 then nI ty else (-1)
theorem bfne {b : Bool} (h : b = false) : ¬ b = true := by rw [h]; decide
theorem tnI {j : Nat} (h : j < 2147483648) : tn (nI j) = j := nI_clamp h
