/-! what was seen; bytes of a text; ratings -/
def seenN (sn : Nat) (sh sm : Nat → Int32) (h mi : Int32) : Nat × (Nat → Int32) × (Nat → Int32) := if sn < 8 then (sn + 1, upd sh sn h, upd sm sn mi) else (sn, sh, sm)
def fitB (sh sm si : Nat → Int32) : Nat → Bool
  | 0 => true
  | i + 1 => fitB sh sm si i && decide (inb (sh i) 8 = true ∧ si (tn (sh i)) = sm i)
theorem fit_no {sh sm si : Nat → Int32} {i n : Nat} (hi : i < n) (h : ¬ (inb (sh i) 8 = true ∧ si (tn (sh i)) = sm i)) : fitB sh sm si n = false := by
  have key : ∀ d, fitB sh sm si (i + 1 + d) = false := by
    intro d
    induction d with
    | zero => show (fitB sh sm si i && _) = false; rw [decide_eq_false h, Bool.and_false]
    | succ d ih => show (fitB sh sm si (i + 1 + d) && _) = false; rw [ih]; rfl
  have := key (n - (i + 1))
  rw [show i + 1 + (n - (i + 1)) = n by omega] at this
  exact this
theorem fit_up {sh sm si : Nat → Int32} {i g : Nat} (h : fitB sh sm si i = true) (e : sh i = nI g) (hg : g < 8) (h2 : si g = sm i) : fitB sh sm si (i + 1) = true := by
  rw [fitB, h, decide_eq_true ⟨by rw [e]; exact decide_eq_true ⟨nI_pos' (by omega), nI_lt hg (by omega)⟩, by rw [e, tnI (by omega)]; exact h2⟩]; rfl
theorem fit_no2 {sh sm si : Nat → Int32} {i n g : Nat} (hi : i < n) (e : sh i = nI g) (hg : g < 8) (h2 : ¬ si g = sm i) : fitB sh sm si n = false := fit_no hi (fun q => h2 (by have := q.2; rw [e, tnI (by omega)] at this; exact this))
theorem fit_lo {sh sm si : Nat → Int32} {i n : Nat} (hi : i < n) (h : sh i < 0) : fitB sh sm si n = false := fit_no hi (fun q => absurd (of_decide_eq_true q.1).1 (Int32.not_le.2 h))
theorem fit_hi {sh sm si : Nat → Int32} {i n : Nat} (hi : i < n) (h : 8 ≤ sh i) : fitB sh sm si n = false := fit_no hi (fun q => absurd (of_decide_eq_true q.1).2 (Int32.not_lt.2 h))
/-- byte i of a long -/
def byV (v : Int64) (i : Nat) : Nat := v.toUInt64.toNat / 2 ^ (8 * i) % 256
theorem byV_lt (v : Int64) (i : Nat) : byV v i < 256 := Nat.mod_lt _ (by decide)
theorem by_sh : ∀ i : Fin 8, ((Int32.toInt64 ((8 : Int32) * nI i.val)).toUInt64 &&& Int64.toUInt64 63).toNat = 8 * i.val := by decide +kernel
theorem by_low (w : UInt64) : (w.toInt64.toInt32 &&& 255) = nI (w.toNat % 256) := by
  apply Int32.toBitVec_inj.1
  show BitVec.signExtend 32 w.toBitVec &&& 255#32 = BitVec.ofNat 32 (w.toNat % 256)
  rw [BitVec.signExtend_eq_setWidth_of_le _ (by decide)]
  apply BitVec.eq_of_toNat_eq
  rw [BitVec.toNat_and, BitVec.toNat_setWidth, BitVec.toNat_ofNat, BitVec.toNat_ofNat, show 255 % 2 ^ 32 = 2 ^ 8 - 1 from rfl, Nat.and_two_pow_sub_one_eq_mod]
  show w.toNat % 2 ^ 32 % 2 ^ 8 = _
  omega
theorem by_cls {v : Int64} {i : Nat} (hi : i < 8) : ((v.toUInt64 >>> ((Int32.toInt64 ((8 : Int32) * nI i)).toUInt64 &&& Int64.toUInt64 63)).toInt64.toInt32 &&& 255) = nI (byV v i) := by
  have hs := by_sh ⟨i, hi⟩
  rw [by_low, UInt64.toNat_shiftRight]
  rw [show (((Int32.toInt64 ((8 : Int32) * nI i)).toUInt64 &&& Int64.toUInt64 63)).toNat = 8 * i from hs, Nat.shiftRight_eq_div_pow, Nat.mod_eq_of_lt (show 8 * i < 64 by omega)]
  rfl
theorem by_shm : ∀ i : Fin 8, (((Int32.toInt64 ((8 : Int32) * nI i.val)) &&& 63).toBitVec.smod 64#64).toNat = 8 * i.val := by decide +kernel
theorem by_sh2 : ∀ i : Fin 8, (((Int32.toInt64 ((8 : Int32) * nI i.val)).toUInt64 &&& Int64.toUInt64 63).toBitVec % 64#64).toNat = 8 * i.val := by decide +kernel
theorem tb255b : ∀ j : Fin 64, (255#64).getLsbD j.val = decide (j.val < 8) := by decide +kernel
theorem by_mod {v : Int64} {i : Nat} (hi : i < 8) : ((v >>> ((Int32.toInt64 ((8 : Int32) * nI i)) &&& 63)) &&& 255).toInt32 = nI (byV v i) := by
  have e : (v >>> ((Int32.toInt64 ((8 : Int32) * nI i)) &&& 63)) &&& 255 = (v.toUInt64 >>> ((Int32.toInt64 ((8 : Int32) * nI i)).toUInt64 &&& Int64.toUInt64 63)).toInt64 &&& 255 := by
    apply Int64.toBitVec_inj.1
    show (v.toBitVec.sshiftRight (((Int32.toInt64 ((8 : Int32) * nI i)) &&& 63).toBitVec.smod 64#64).toNat) &&& 255#64 = (v.toBitVec >>> (((Int32.toInt64 ((8 : Int32) * nI i)).toUInt64 &&& Int64.toUInt64 63).toBitVec % 64#64)) &&& 255#64
    rw [BitVec.ushiftRight_eq', by_shm ⟨i, hi⟩, by_sh2 ⟨i, hi⟩]
    apply BitVec.eq_of_getLsbD_eq
    intro j hj
    rw [BitVec.getLsbD_and, BitVec.getLsbD_and, tb255b ⟨j, hj⟩, BitVec.getLsbD_sshiftRight, BitVec.getLsbD_ushiftRight]
    by_cases q : j < 8
    · rw [decide_eq_false (show ¬ 64 ≤ j by omega), if_pos (show 8 * i + j < 64 by omega)]; rfl
    · rw [decide_eq_false q, Bool.and_false, Bool.and_false]
  rw [e, ← by_cls hi]
  generalize (v.toUInt64 >>> ((Int32.toInt64 ((8 : Int32) * nI i)).toUInt64 &&& Int64.toUInt64 63)).toInt64 = w
  apply Int32.toBitVec_inj.1
  show BitVec.signExtend 32 (w.toBitVec &&& 255#64) = BitVec.signExtend 32 w.toBitVec &&& 255#32
  rw [BitVec.signExtend_eq_setWidth_of_le _ (by decide), BitVec.signExtend_eq_setWidth_of_le _ (by decide), BitVec.setWidth_and]
  rfl
def apB (bt : Nat → Nat) (v : Int64) (ty nn d : Nat) : Nat → Nat := fun j => if ty ≤ j ∧ j < ty + d then byV v (nn - 1 - (j - ty)) else bt j
theorem apB_0 {bt : Nat → Nat} {v : Int64} {ty nn : Nat} : apB bt v ty nn 0 = bt := by
  funext j; exact if_neg (by omega)
theorem apB_s {bt : Nat → Nat} {v : Int64} {ty nn i : Nat} (hi : i + 1 ≤ nn) : updN (apB bt v ty nn (nn - (i + 1))) (ty + (nn - (i + 1))) (byV v i) = apB bt v ty nn (nn - i) := by
  funext j
  unfold apB
  by_cases e : j = ty + (nn - (i + 1))
  · subst e
    rw [updN_s, if_pos (by omega)]
    congr 1; omega
  · rw [updN_n e]
    by_cases z : ty ≤ j ∧ j < ty + (nn - (i + 1))
    · rw [if_pos z, if_pos (by omega)]
    · rw [if_neg z, if_neg (by omega)]
/-- how a kind rates a house of one price, burn, touching houses, wind -/
def rtF (kd pl bu tc wd h : Int32) : Int32 := if kd = 1 then pl + bu else if kd = 2 then pl - tc else if kd = 3 then 2 * (pl + bu) else if kd = 4 then (pl - tc) + wd else if kd = 5 then pl - h else pl
def asF (kd : Int32) : Int64 := if kd = 1 then 11 else if kd = 2 then 101 else if kd = 3 then 1011 else if kd = 4 then 10101 else if kd = 5 then 100001 else 1
