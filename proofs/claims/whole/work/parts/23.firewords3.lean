/-! fires, payments, weeks: what both sides answer -/
theorem fS_congr {tr tr2 xs ys : Nat → Int32} {n : Nat} {w : Int32} {a0 : Nat} (h : ∀ j, j < n → tr j = tr2 j) : ∀ mi, fS tr xs ys n w a0 mi = fS tr2 xs ys n w a0 mi
  | 0 => rfl
  | mi + 1 => by
    funext b
    rw [fS_1, fS_1, fS_congr h mi]
    have e : fCb tr xs ys n w (fS tr2 xs ys n w a0 mi) mi b = fCb tr2 xs ys n w (fS tr2 xs ys n w a0 mi) mi b := by
      unfold fCb
      by_cases hb : b < n
      · rw [anyN_congr (Q := fun a => decide (fS tr2 xs ys n w a0 mi a = nI mi) && (decide (tr2 a = tr2 b) && (tchb xs ys a b || thrb xs ys a b w))) (fun a ha => by rw [h a ha, h b hb])]
      · rw [decide_eq_false hb, Bool.false_and, Bool.false_and]
    rw [e]
def burB (bu : Nat → Int32) (k : Nat) (rf : Nat → Int32) (h : Nat) : Bool := decide (0 < prOf bu k (rf h))
def cntF (xs ys rf : Nat → Int32) (n : Nat) (w : Int32) (h : Nat) : Nat := cntB (litB (fS rf xs ys n w h 98)) n
def prN (pr : Nat → Int32) (k : Nat) (s : Int32) : Nat := tn (prOf pr k s)
def lostN (xs ys rf pr bu : Nat → Int32) (n k : Nat) (w : Int32) (h : Nat) : Nat := if burB bu k rf h = true then cntF xs ys rf n w h * prN pr k (rf h) else 0
theorem prN_nI {pr bu : Nat → Int32} {k : Nat} (hk : k ≤ 4) (hp : pOK k pr bu) (s : Int32) : prOf pr k s = nI (prN pr k s) ∧ prN pr k s ≤ 99 := by
  unfold prN
  cases q : inb s k with
  | false => rw [prOf_f q]; decide
  | true =>
    obtain ⟨j, hj, rfl⟩ := inb_nI (by omega) q
    obtain ⟨x, h1, h2, h3⟩ := (hp j hj).1
    rw [prOf_t hj (by omega), h3, tnI (by omega)]
    exact ⟨rfl, h2⟩
theorem cntF_le {xs ys rf : Nat → Int32} {n : Nat} {w : Int32} {h : Nat} (hn : n ≤ 8) : cntF xs ys rf n w h ≤ 8 := Nat.le_trans (cntB_le _ _) hn
theorem lostN_le {xs ys rf pr bu : Nat → Int32} {n k : Nat} {w : Int32} {h : Nat} (hn : n ≤ 8) (hk : k ≤ 4) (hp : pOK k pr bu) : lostN xs ys rf pr bu n k w h ≤ 792 := by
  unfold lostN
  split
  · exact (Nat.mul_le_mul (cntF_le hn) (prN_nI hk hp _).2 : _ ≤ 8 * 99)
  · omega
theorem burn_get {tr rf pr bu : Nat → Int32} {n k a : Nat} (hro : rOK n k rf) (hpo : pOK k pr bu) (ha : a < n) (hn : n ≤ 8) (hk : k ≤ 4) (htr : ∀ j, j < n → tr j = rf j) (hc : canb tr bu a = true) :
    burB bu k rf a = true ∧ ∃ s0 b0, tr a = nI s0 ∧ s0 < 8 ∧ bu s0 = nI b0 ∧ 1 ≤ b0 ∧ b0 ≤ 9 ∧ pr s0 = nI (prN pr k (rf a)) ∧ bu s0 = prOf bu k (rf a) := by
  obtain ⟨h1, h2⟩ := of_decide_eq_true hc
  rw [htr a ha] at h1 h2
  obtain ⟨v, hv, e⟩ := (hro a ha).resolve_left h1
  rw [e, nI_clamp (by omega)] at h2
  obtain ⟨b0, hb, eb⟩ := (hpo v hv).2
  have hp2 := (prN_nI hk hpo (rf a)).1
  rw [e, prOf_t hv (by omega)] at hp2
  refine ⟨?_, v, b0, (htr a ha).trans e, by omega, eb, ?_, hb, by rw [e]; exact hp2, by rw [e, prOf_t hv (by omega)]⟩
  · unfold burB; rw [e, prOf_t hv (by omega)]; exact decide_eq_true h2
  · rw [eb, ← nI_0] at h2; exact (nI_ltI (by omega) (by omega)).1 h2
theorem burn_no {tr rf bu : Nat → Int32} {n k a : Nat} (hro : rOK n k rf) (ha : a < n) (hk : k ≤ 4) (htr : ∀ j, j < n → tr j = rf j) (hc : canb tr bu a = false) : burB bu k rf a = false := by
  have h1 := of_decide_eq_false hc
  rw [htr a ha] at h1
  refine decide_eq_false (fun q => h1 ?_)
  rcases hro a ha with e | ⟨v, hv, e⟩
  · rw [e] at q
    exact absurd q (by rw [prOf_f (by refine decide_eq_false (fun z => absurd z.1 (by decide)))]; decide)
  · rw [e, prOf_t hv (by omega)] at q
    rw [e, nI_clamp (by omega)]
    exact ⟨nI_ne9 (by omega), q⟩
theorem rok8 {tr rf : Nat → Int32} {n k a : Nat} (hro : rOK n k rf) (ha : a < n) (hk : k ≤ 4) (htr : ∀ j, j < n → tr j = rf j) : tr a = (-9) ∨ ∃ s, s < 8 ∧ tr a = nI s := by
  rw [htr a ha]
  rcases hro a ha with e | ⟨v, hv, e⟩
  · exact Or.inl e
  · exact Or.inr ⟨v, by omega, e⟩
theorem sumI_cnt {P : Nat → Bool} {Q : Nat → Prop} [∀ h, Decidable (Q h)] {x : Nat} (h : ∀ j, P j = true ↔ ¬ Q j) : ∀ n, sumI (fun h => if Q h then 0 else nI x) n = nI (cntB P n * x)
  | 0 => by rw [sumI, cntB, Nat.zero_mul]; exact nI_0.symm
  | n + 1 => by
    rw [sumI, cntB, sumI_cnt h n]
    by_cases q : Q n
    · rw [if_pos q, if_neg (fun z => (h n).1 z q)]; exact Int32.add_zero _
    · rw [if_neg q, if_pos ((h n).2 q), nI_add, Nat.succ_mul]
theorem lost_sum {tr rf xs ys pr bu : Nat → Int32} {n k a s0 : Nat} {w : Int32} (htr : ∀ j, j < n → tr j = rf j) (hb : burB bu k rf a = true) (hp : pr s0 = nI (prN pr k (rf a))) : sumI (fun h => if fS tr xs ys n w a 98 h = (-9) then 0 else pr s0) n = nI (lostN xs ys rf pr bu n k w a) := by
  rw [fS_congr htr, hp, lostN, if_pos hb]
  exact sumI_cnt (P := litB (fS rf xs ys n w a 98)) (fun j => by unfold litB; rw [Bool.not_eq_true', decide_eq_false_iff_not]) n
def aCatches (n k : Nat) (xs ys rf bu : Nat → Int32) (w fr h : Int32) : Int32 := if inb fr n = true then (if inb h n = true then (if burB bu k rf (tn fr) = true then fS rf xs ys n w (tn fr) 98 (tn h) else (-2)) else (-1)) else (-1)
def aFire (n k : Nat) (xs ys rf pr bu : Nat → Int32) (w fr what : Int32) : Int32 := if inb fr n = true then (if inr what 0 2 = true then (if burB bu k rf (tn fr) = true then (if what = 0 then nI (cntF xs ys rf n w (tn fr)) else if what = 1 then nI (lostN xs ys rf pr bu n k w (tn fr)) else enI (fS rf xs ys n w (tn fr) 98) (prOf bu k (rf (tn fr))) n) else (-2)) else (-1)) else (-1)
/-- the dearest fire, the first of several -/
def wstR (L : Nat → Nat) (B : Nat → Bool) : Nat → Int32 × Nat
  | 0 => ((-9), 0)
  | h + 1 => if B h = true then (if (wstR L B h).1 = (-9) ∨ (wstR L B h).2 < L h then nI h else (wstR L B h).1, if (wstR L B h).2 < L h then L h else (wstR L B h).2) else wstR L B h
def ordA (P : Nat → Bool) (w : Int32) : Nat → Int32
  | 0 => (-5)
  | h + 1 => if ordA P w h = (-5) then (if P h = true ∧ nI (cntB P h) = w then nI h else (-5)) else ordA P w h
theorem ordA_keep {P : Nat → Bool} {w : Int32} {h n : Nat} (hn : n ≤ 8) (hh : h < n) (h0 : ordA P w h = (-5)) (h1 : P h = true) (h2 : nI (cntB P h) = w) : nI h = ordA P w n := by
  have e5 : ∀ j : Fin 8, ¬ nI j.val = (-5 : Int32) := by decide
  have e : ordA P w (h + 1) = nI h := by rw [ordA, if_pos h0, if_pos ⟨h1, h2⟩]
  have key : ∀ d, ordA P w (h + 1 + d) = nI h := by
    intro d
    induction d with
    | zero => exact e
    | succ d ih =>
      show (if ordA P w (h + 1 + d) = (-5) then _ else ordA P w (h + 1 + d)) = nI h
      rw [ih, if_neg (e5 ⟨h, by omega⟩)]
  have := key (n - (h + 1))
  rw [show h + 1 + (n - (h + 1)) = n by omega] at this
  exact this.symm
theorem ordA_n {P : Nat → Bool} {w : Int32} {h : Nat} (h0 : ordA P w h = (-5)) (h1 : ¬ (P h = true ∧ nI (cntB P h) = w)) : ordA P w (h + 1) = (-5) := by rw [ordA, if_pos h0, if_neg h1]
def comesB (old : Int32) (rf : Nat → Int32) (h : Nat) : Bool := decide (((old >>> (nI h &&& 31)) &&& 1) = 0 ∧ ¬ rf h = (-9))
def aOrder (n : Nat) (xs ys rf : Nat → Int32) (old sp w : Int32) : Int32 := if inr sp 0 1 = true ∧ 0 ≤ w then (if brN xs ys rf sp n = 0 then ordA (comesB old rf) w n else (-9)) else (-1)
def payI (xs ys rf pr : Nat → Int32) (k h g : Nat) : Int32 := if tchb xs ys h g = true ∧ ¬ rf h = (-9) ∧ ¬ rf g = (-9) then (prOf pr k (rf h) - prOf pr k (rf g)) / 2 else 0
def aPays (n k : Nat) (xs ys rf pr : Nat → Int32) (h : Int32) : Int32 := if inb h n = true then sumI (payI xs ys rf pr k (tn h)) n else (-1000000)
/-- draws -/
def nxt (x : Int32) : Int32 := x * 1103515245 + 12345
def drN (x : Int32) : Nat := x.toUInt32.toNat / 65536
theorem drN_lt (x : Int32) : drN x < 65536 := by
  unfold drN
  have := UInt32.toNat_lt x.toUInt32
  omega
theorem dr_cls (x : Int32) : (x.toUInt32 >>> ((16 : Int32).toUInt32 &&& Int32.toUInt32 31)).toInt32 = nI (drN x) := by
  apply Int32.toBitVec_inj.1
  apply BitVec.eq_of_toNat_eq
  show (x.toUInt32 >>> ((16 : Int32).toUInt32 &&& Int32.toUInt32 31)).toNat = (BitVec.ofNat 32 (drN x)).toNat
  rw [UInt32.toNat_shiftRight, BitVec.toNat_ofNat, Nat.mod_eq_of_lt (Nat.lt_trans (drN_lt x) (by decide)), show ((16 : Int32).toUInt32 &&& Int32.toUInt32 31).toNat % 32 = 16 from by decide, Nat.shiftRight_eq_div_pow]
  rfl
theorem tb16 : ∀ j : Fin 32, (65535#32).getLsbD j.val = decide (j.val < 16) := by decide +kernel
theorem dr_mod (x : Int32) : ((x >>> ((16 : Int32) &&& 31)) &&& 65535) = nI (drN x) := by
  rw [← dr_cls]
  apply Int32.toBitVec_inj.1
  show (x.toBitVec.sshiftRight 16) &&& 65535#32 = x.toBitVec >>> 16
  apply BitVec.eq_of_getLsbD_eq
  intro j hj
  rw [BitVec.getLsbD_and, tb16 ⟨j, hj⟩, BitVec.getLsbD_sshiftRight, BitVec.getLsbD_ushiftRight]
  by_cases q : j < 16
  · rw [decide_eq_false (show ¬ 32 ≤ j by omega), if_pos (show 16 + j < 32 by omega), decide_eq_true q, Bool.and_true]; rfl
  · rw [decide_eq_false q, Bool.and_false, BitVec.getLsbD_of_ge _ _ (show 32 ≤ 16 + j by omega)]
theorem wst_up {L : Nat → Nat} {B : Nat → Bool} {i : Nat} {d : Int32} {mo : Nat} {d2 : Int32} {m2 : Nat} (h : (d, mo) = wstR L B i) (hb : B i = true) (h1 : d2 = (if d = (-9) ∨ mo < L i then nI i else d)) (h2 : m2 = (if mo < L i then L i else mo)) : (d2, m2) = wstR L B (i + 1) := by
  rw [wstR, if_pos hb, ← h, h1, h2]
theorem wst_no {L : Nat → Nat} {B : Nat → Bool} {i : Nat} {d : Int32} {mo : Nat} (h : (d, mo) = wstR L B i) (hb : B i = false) : (d, mo) = wstR L B (i + 1) := by
  rw [wstR, hb, if_neg (by decide)]; exact h
theorem nI_ne0b {g : Nat} (h : 1 ≤ g) (h2 : g < 2147483648) : ¬ nI g = 0 := fun q => absurd ((nI_eq h2 (by decide)).1 (q.trans nI_0.symm)) (by omega)
def aMean (sm mn : Nat) (what : Int32) : Int32 := if inr what 0 1 = true then (if mn = 0 then (-1000000) else if what = 0 then nI (sm / Nat.gcd sm mn) else nI (mn / Nat.gcd sm mn)) else (-1000000)
/-- years -/
def yrF (xs ys rf pr bu : Nat → Int32) (n k : Nat) (v lot : Int32) : Nat → Int32 × Int32
  | 0 => (0, lot)
  | y + 1 => ((yrF xs ys rf pr bu n k v lot y).1 - nI (lostN xs ys rf pr bu n k (nI (drN (nxt (nxt (yrF xs ys rf pr bu n k v lot y).2)) % 5)) (drN (nxt (yrF xs ys rf pr bu n k v lot y).2) % n)) + nI (lostN xs ys (fun _ => v) pr bu n k (nI (drN (nxt (nxt (yrF xs ys rf pr bu n k v lot y).2)) % 5)) (drN (nxt (yrF xs ys rf pr bu n k v lot y).2) % n)), nxt (nxt (yrF xs ys rf pr bu n k v lot y).2))
theorem yr_up {xs ys rf pr bu : Nat → Int32} {n k y h w : Nat} {v lot sv l1 l2 sv2 : Int32} {l0 : Int32} (e : (sv, l0) = yrF xs ys rf pr bu n k v lot y) (h1 : l1 = nxt l0) (h2 : l2 = nxt l1) (hh : h = drN l1 % n) (hw : w = drN l2 % 5) (hs : sv2 = sv - nI (lostN xs ys rf pr bu n k (nI w) h) + nI (lostN xs ys (fun _ => v) pr bu n k (nI w) h)) : (sv2, l2) = yrF xs ys rf pr bu n k v lot (y + 1) := by
  rw [yrF, ← e, hs, hw, hh, h2, h1]
theorem lostN_congr {xs ys rf rf2 pr bu : Nat → Int32} {n k h : Nat} {w : Int32} (hh : h < n) (e : ∀ j, j < n → rf j = rf2 j) : lostN xs ys rf pr bu n k w h = lostN xs ys rf2 pr bu n k w h := by
  unfold lostN burB cntF
  rw [e h hh, fS_congr e]
theorem rok_congr {n k : Nat} {rf rf2 : Nat → Int32} (h : rOK n k rf) (e : ∀ j, j < n → rf2 j = rf j) : rOK n k rf2 := fun j hj => by rw [e j hj]; exact h j hj
def aYears (n k : Nat) (xs ys rf pr bu : Nat → Int32) (lot m_ v : Int32) : Int32 := if inr m_ 1 99 = true ∧ inb v k = true ∧ ¬ n = 0 then (yrF xs ys rf pr bu n k v lot (tn m_)).1 else (-1000000)
def nYears (n k : Nat) (xs ys rf pr bu : Nat → Int32) (lot m_ v : Int32) : Int32 := if inr m_ 1 99 = true ∧ inb v k = true ∧ ¬ n = 0 then (yrF xs ys rf pr bu n k v lot (tn m_)).2 else lot
theorem beg_up {P : Nat → Bool} {bi i b2 : Nat} {x : Int32} (hb : bi = mkM P i) (hi : i < 8) (hx : x = nI bi ||| nI b2) (h2 : b2 = (if P i = true then 2 ^ i else 0)) : x = nI (mkM P (i + 1)) := by
  rw [hx, h2, hb, mkM]
  by_cases q : P i = true
  · rw [if_pos q, ← sh1 (i := i) (by omega), or1 (mkM_lt P i) hi]
  · rw [if_neg q, fa_or]; exact congrArg nI (Nat.or_zero _)
