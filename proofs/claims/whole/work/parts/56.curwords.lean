/-! the reference's place on the tokens -/
def jN (ok is_ : Bool) (j : Nat) : Nat := if (ok && is_) = true then j + 1 else j
def faN (sp_ : Nat → Nat) (ok : Bool) (j : Nat) : Int32 := if ok = true then (-1) else nI (sp_ j)
section CUR
variable {F : Nat → Nat} {ty j a b : Nat} {va lo hi : Int32} {ok : Bool}
theorem well_t (hty : ty ≤ 300) (c : ¬ 0 ≤ faN (stP F ty) ok j) : (1 : Int32) = bb ok := by
  have h := stP_le (F := F) (ty := ty) j
  cases ok with
  | true => rfl
  | false => exact absurd (nI_pos' (show stP F ty j < 2 ^ 31 by omega)) c
theorem well_f (c : 0 ≤ faN (stP F ty) ok j) : (0 : Int32) = bb ok := by
  cases ok with
  | false => rfl
  | true => exact absurd c (by decide : ¬ (0 : Int32) ≤ -1)
theorem cur_num (hva : vaOK F ty (stP F ty j) va) (hin : inB lo hi a b) : (tkK F ty (stP F ty j) = 2 ∧ inr va lo hi = true) ↔ okN (kdF F ty) (vlF F ty) j a b = true := by
  rw [okN_iff]
  show _ ↔ ckN F ty (stP F ty j) = 3 ∧ a ≤ cvN F ty (stP F ty j) ∧ cvN F ty (stP F ty j) < b
  rcases tk_case (F := F) (ty := ty) (s := stP F ty j) with ⟨q1, q2⟩ | ⟨q1, q2⟩ | ⟨q1, q2⟩ | ⟨q1, q2, q3, q4⟩ | ⟨c, hc, q1, q2, q3⟩
  · exact ⟨fun z => by omega, fun z => by omega⟩
  · exact ⟨fun z => by omega, fun z => by omega⟩
  · exact ⟨fun z => by omega, fun z => by omega⟩
  · have e := hva.2 q2
    rw [e, q3, hin _ (show nuN F ty (stP F ty j) ≤ 100 by omega)]
    exact ⟨fun z => ⟨q1, z.2⟩, fun z => ⟨q2, z.2⟩⟩
  · exact ⟨fun z => by omega, fun z => by omega⟩
theorem cur_no (hva : vaOK F ty (stP F ty j) va) (hin : inB lo hi a b) (c : ¬ (tkK F ty (stP F ty j) = 2 ∧ inr va lo hi = true)) : false = okN (kdF F ty) (vlF F ty) j a b := by
  cases h : okN (kdF F ty) (vlF F ty) j a b with
  | false => rfl
  | true => exact absurd ((cur_num hva hin).2 h) c
theorem cur_val (hva : vaOK F ty (stP F ty j) va) (h : okN (kdF F ty) (vlF F ty) j a b = true) : va = nI (vlF F ty j) := by
  have h3 : ckN F ty (stP F ty j) = 3 := (okN_iff.1 h).1
  show va = nI (cvN F ty (stP F ty j))
  rcases tk_case (F := F) (ty := ty) (s := stP F ty j) with ⟨q1, q2⟩ | ⟨q1, q2⟩ | ⟨q1, q2⟩ | ⟨q1, q2, q3, q4⟩ | ⟨c, hc, q1, q2, q3⟩
  · omega
  · omega
  · omega
  · rw [q3]; exact hva.2 q2
  · omega
theorem cur_ret (hva : vaOK F ty (stP F ty j) va) : (if (ok && okN (kdF F ty) (vlF F ty) j a b) = true then va else 0) = nI (if (ok && okN (kdF F ty) (vlF F ty) j a b) = true then vlF F ty j else 0) := by
  by_cases h : (ok && okN (kdF F ty) (vlF F ty) j a b) = true
  · rw [if_pos h, if_pos h]; exact cur_val hva (Bool.and_eq_true_iff.1 h).2
  · rw [if_neg h, if_neg h]; rfl
end CUR
theorem in_nI {v : Int32} {n : Nat} (hn : n ≤ 8) (h : inr v 0 (nI n - 1) = true) : ∃ j, j < n ∧ v = nI j := by
  rw [inr_inb hn] at h
  exact inb_nI (by omega) h
def sh8 (f : Nat → Int32) : Nat → Int32 := fun h => f (8 + h)
def sh4 (f : Nat → Int32) : Nat → Int32 := fun h => f (4 + h)
theorem sh8_upd {f : Nat → Int32} {i : Nat} {v : Int32} : sh8 (upd f (8 + i) v) = upd (sh8 f) i v := by
  funext h
  show upd f (8 + i) v (8 + h) = _
  by_cases e : h = i
  · subst e; rw [pk_us, pk_us]
  · rw [pk_un (show 8 + h ≠ 8 + i by omega), pk_un e]; rfl
theorem sh4_upd {f : Nat → Int32} {i : Nat} {v : Int32} : sh4 (upd f (4 + i) v) = upd (sh4 f) i v := by
  funext h
  show upd f (4 + i) v (4 + h) = _
  by_cases e : h = i
  · subst e; rw [pk_us, pk_us]
  · rw [pk_un (show 4 + h ≠ 4 + i by omega), pk_un e]; rfl
theorem upd_same {f : Nat → Int32} {i : Nat} : upd f i (f i) = f := by
  funext h
  by_cases e : h = i
  · subst e; rw [pk_us]
  · rw [pk_un e]
/-- the reference's cells that hold a draft -/
def mR (d : DT) (dk dn : Nat) (dw : Int32) (ww : Bool) (xs ys bo dr pr bu : Nat → Int32) : Prop := tR d dn dk d.1.2.2.1 ww (sh8 xs) (sh8 ys) dr (sh8 bo) (sh4 pr) (sh4 bu) ∧ dw = nI d.1.2.2.1
def mdQ (r : Bool × DT × Nat) (okE : Bool) (jE dk dn : Nat) (dw : Int32) (ww : Bool) (xs ys bo dr pr bu : Nat → Int32) : Prop := okE = r.1 ∧ jE = r.2.2 ∧ (r.1 = true → mR r.2.1 dk dn dw ww xs ys bo dr pr bu)
def kpT (xs ys bo pr bu xs2 ys2 bo2 pr2 bu2 : Nat → Int32) : Prop := (∀ j, j < 8 → xs2 j = xs j ∧ ys2 j = ys j ∧ bo2 j = bo j) ∧ ∀ j, j < 4 → pr2 j = pr j ∧ bu2 j = bu j
theorem kpT_rf {xs ys bo pr bu : Nat → Int32} : kpT xs ys bo pr bu xs ys bo pr bu := ⟨fun _ _ => ⟨rfl, rfl, rfl⟩, fun _ _ => ⟨rfl, rfl⟩⟩
theorem kpT_tr {xs ys bo pr bu xs1 ys1 bo1 pr1 bu1 xs2 ys2 bo2 pr2 bu2 : Nat → Int32} (h : kpT xs ys bo pr bu xs1 ys1 bo1 pr1 bu1) (g : kpT xs1 ys1 bo1 pr1 bu1 xs2 ys2 bo2 pr2 bu2) : kpT xs ys bo pr bu xs2 ys2 bo2 pr2 bu2 :=
  ⟨fun j hj => ⟨(g.1 j hj).1.trans (h.1 j hj).1, (g.1 j hj).2.1.trans (h.1 j hj).2.1, (g.1 j hj).2.2.trans (h.1 j hj).2.2⟩, fun j hj => ⟨(g.2 j hj).1.trans (h.2 j hj).1, (g.2 j hj).2.trans (h.2 j hj).2⟩⟩
theorem upd_lo8 {f : Nat → Int32} {i j : Nat} {v : Int32} (hj : j < 8) : upd f (8 + i) v j = f j := pk_un (by omega)
theorem upd_lo4 {f : Nat → Int32} {i j : Nat} {v : Int32} (hj : j < 4) : upd f (4 + i) v j = f j := pk_un (by omega)
section MRE
variable {d : DT} {dk dn : Nat} {dw : Int32} {ww : Bool} {xs ys bo dr pr bu : Nat → Int32}
theorem mR_le (h : mR d dk dn dw ww xs ys bo dr pr bu) (hd : dOK d) : dn ≤ 8 ∧ dk ≤ 4 := tR_le h.1 hd
theorem mR_eq (h : mR d dk dn dw ww xs ys bo dr pr bu) : d.1.1 = dn ∧ d.1.2.1 = dk ∧ d.1.2.2.2 = ww := ⟨(tR_eq h.1).1, (tR_eq h.1).2.1, (tR_eq h.1).2.2.2⟩
theorem mR_bo (h : mR d dk dn dw ww xs ys bo dr pr bu) {a : Nat} (ha : a < dn) : bo (8 + a) = d.2.1.2.2.2 a := (h.1.2.1 a ha).2.2.2
variable {F : Nat → Nat} {ty j v h1 s1 : Nat} {va wh : Int32} {i1 i2 : Bool}
theorem rr1_t (hva : vaOK F ty (stP F ty j) va) (hdn : dn ≤ 8) (hv : v < dn) (hvb : va = nI v) (hk : tkK F ty (stP F ty j) = 2) (hb : inr va 0 (nI dn - 1) = true) (hc : wh = 2 ∨ bo (8 + v) = (-9)) : true = (okN (kdF F ty) (vlF F ty) j 0 dn && (decide (wh = 2) || decide (bo (8 + vlF F ty j) = (-9)))) := by
  have h := (cur_num hva (inB_n hdn)).1 ⟨hk, hb⟩
  have e := cur_val hva h
  have hl := (okN_iff.1 h).2.2
  have e2 : vlF F ty j = v := ((nI_eq (by omega) (by omega)).1 (hvb.symm.trans e)).symm
  rw [h, e2]
  rcases hc with hc | hc
  · rw [decide_eq_true hc]; rfl
  · rw [decide_eq_true hc, Bool.or_true]; rfl
theorem rr1_b (hva : vaOK F ty (stP F ty j) va) (hdn : dn ≤ 8) (hv : v < dn) (hvb : va = nI v) (hk : tkK F ty (stP F ty j) = 2) (hb : inr va 0 (nI dn - 1) = true) (hc : ¬ wh = 2) (hc2 : ¬ bo (8 + v) = (-9)) : false = (okN (kdF F ty) (vlF F ty) j 0 dn && (decide (wh = 2) || decide (bo (8 + vlF F ty j) = (-9)))) := by
  have h := (cur_num hva (inB_n hdn)).1 ⟨hk, hb⟩
  have e := cur_val hva h
  have hl := (okN_iff.1 h).2.2
  have e2 : vlF F ty j = v := ((nI_eq (by omega) (by omega)).1 (hvb.symm.trans e)).symm
  rw [h, e2, decide_eq_false hc, decide_eq_false hc2]; rfl
theorem rr1_f (hva : vaOK F ty (stP F ty j) va) (hdn : dn ≤ 8) (c : ¬ (tkK F ty (stP F ty j) = 2 ∧ inr va 0 (nI dn - 1) = true)) {x : Bool} : false = (okN (kdF F ty) (vlF F ty) j 0 dn && x) := by
  rw [← cur_no hva (inB_n hdn) c]; rfl
theorem rr_h1 (hva : vaOK F ty (stP F ty j) va) {x : Bool} (hi1 : i1 = (okN (kdF F ty) (vlF F ty) j 0 dn && x)) : ∃ h1, h1 = (if i1 = true then vlF F ty j else 0) ∧ (if (true && i1) = true then va else 0) = nI h1 := by
  refine ⟨_, rfl, ?_⟩
  cases i1 with
  | false => rfl
  | true => exact cur_val hva (Bool.and_eq_true_iff.1 hi1.symm).1
theorem rr_h8 (hdn : dn ≤ 8) {x : Bool} (hi1 : i1 = (okN (kdF F ty) (vlF F ty) j 0 dn && x)) (hh1 : h1 = (if i1 = true then vlF F ty j else 0)) : h1 < 8 ∧ (i1 = true → h1 < dn) := by
  cases i1 with
  | false =>
    have e : h1 = 0 := hh1
    exact ⟨by omega, fun q => by cases q⟩
  | true =>
    have := (okN_iff.1 (Bool.and_eq_true_iff.1 hi1.symm).1).2.2
    have e : h1 = vlF F ty j := hh1
    exact ⟨by omega, fun _ => by omega⟩
theorem rr2_t (hva : vaOK F ty (stP F ty j) va) (hdk : dk ≤ 8) (hv : v < dk) (hvb : va = nI v) (hk : tkK F ty (stP F ty j) = 2) (hb : inr va 0 (nI dk - 1) = true) (hc : wh = 3 ∨ bo (8 + h1) = (-9) ∨ bo (8 + h1) = va) : true = (okN (kdF F ty) (vlF F ty) j 0 dk && (decide (wh = 3) || (decide (bo (8 + h1) = (-9)) || decide (bo (8 + h1) = nI (vlF F ty j))))) := by
  have h := (cur_num hva (inB_n hdk)).1 ⟨hk, hb⟩
  have e := cur_val hva h
  rw [h, ← e]
  rcases hc with hc | hc | hc
  · rw [decide_eq_true hc]; rfl
  · rw [decide_eq_true hc, Bool.true_or, Bool.or_true]; rfl
  · rw [decide_eq_true hc, Bool.or_true, Bool.or_true]; rfl
theorem rr2_b (hva : vaOK F ty (stP F ty j) va) (hdk : dk ≤ 8) (hk : tkK F ty (stP F ty j) = 2) (hb : inr va 0 (nI dk - 1) = true) (hc : ¬ wh = 3) (hc2 : ¬ bo (8 + h1) = (-9)) (hc3 : ¬ bo (8 + h1) = va) : false = (okN (kdF F ty) (vlF F ty) j 0 dk && (decide (wh = 3) || (decide (bo (8 + h1) = (-9)) || decide (bo (8 + h1) = nI (vlF F ty j))))) := by
  have h := (cur_num hva (inB_n hdk)).1 ⟨hk, hb⟩
  have e := cur_val hva h
  rw [h, ← e, decide_eq_false hc, decide_eq_false hc2, decide_eq_false hc3]; rfl
theorem rr_s1 (hva : vaOK F ty (stP F ty j) va) {x : Bool} (hi2 : i2 = (okN (kdF F ty) (vlF F ty) j 0 dk && x)) : ∃ s1, s1 = (if (true && i1 && i2) = true then vlF F ty j else 0) ∧ (if (true && i1 && i2) = true then va else 0) = nI s1 := by
  refine ⟨_, rfl, ?_⟩
  by_cases h : (true && i1 && i2) = true
  · rw [if_pos h, if_pos h]
    exact cur_val hva (Bool.and_eq_true_iff.1 (hi2.symm.trans (Bool.and_eq_true_iff.1 h).2)).1
  · rw [if_neg h, if_neg h]; rfl
/-- how a roof or a bound ends, before its stop -/
theorem rr_sem {kd vl : Nat → Nat} (hR : mR d dk dn dw ww xs ys bo dr pr bu) (hd : dOK d) (hwh : wh = 2 ∨ wh = 3) (hi1 : i1 = (okN kd vl (j + 1) 0 dn && (decide (wh = 2) || decide (bo (8 + vl (j + 1)) = (-9))))) (hh1 : h1 = (if i1 = true then vl (j + 1) else 0))
    (hi2 : i2 = (okN kd vl (jN true i1 (j + 1)) 0 dk && (decide (wh = 3) || (decide (bo (8 + h1) = (-9)) || decide (bo (8 + h1) = nI (vl (jN true i1 (j + 1)))))))) (hs1 : s1 = (if (true && i1 && i2) = true then vl (jN true i1 (j + 1)) else 0)) :
    (if wh = 2 then bodR kd vl d j else bodB kd vl d j) = ((true && i1 && i2), (if (true && i1 && i2) = true then (if wh = 2 then dRof d h1 s1 else dBnd d h1 s1) else d), jN (true && i1) i2 (jN true i1 (j + 1))) := by
  obtain ⟨en, ek, -⟩ := mR_eq hR
  cases i1 with
  | false =>
    show _ = (false, d, j + 1)
    rcases hwh with rfl | rfl
    · rw [if_pos rfl]
      refine bodR_1 ?_
      rw [en]
      cases h : okN kd vl (j + 1) 0 dn with
      | false => rfl
      | true =>
        rw [h] at hi1
        have z : false = true := hi1
        cases z
    · rw [if_neg (by decide)]
      refine bodB_1 (fun q => ?_)
      rw [en] at q
      rw [q.1, mR_bo hR (okN_iff.1 q.1).2.2, decide_eq_true q.2, Bool.or_true] at hi1
      exact absurd hi1 (by decide)
  | true =>
    have hq := Bool.and_eq_true_iff.1 hi1.symm
    have hl := (okN_iff.1 hq.1).2.2
    have e1 : h1 = vl (j + 1) := hh1
    subst e1
    rw [mR_bo hR hl] at hi2 hq
    have hi2' : i2 = (okN kd vl (j + 2) 0 dk && (decide (wh = 3) || (decide (d.2.1.2.2.2 (vl (j + 1)) = (-9)) || decide (d.2.1.2.2.2 (vl (j + 1)) = nI (vl (j + 2)))))) := hi2
    cases i2 with
    | false =>
      show _ = (false, d, j + 2)
      rcases hwh with rfl | rfl
      · rw [if_pos rfl]
        refine bodR_2 (en ▸ hq.1) (fun q => ?_)
        rw [ek] at q
        rw [q.1] at hi2'
        rcases q.2 with q2 | q2
        · rw [decide_eq_true q2, Bool.true_or, Bool.or_true] at hi2'; exact absurd hi2' (by decide)
        · rw [decide_eq_true q2, Bool.or_true, Bool.or_true] at hi2'; exact absurd hi2' (by decide)
      · rw [if_neg (by decide)]
        have hb : d.2.1.2.2.2 (vl (j + 1)) = (-9) := by
          have := hq.2
          rw [decide_eq_false (by decide : ¬ (3 : Int32) = 2), Bool.false_or] at this
          exact of_decide_eq_true this
        refine bodB_2 ⟨en ▸ hq.1, hb⟩ ?_
        rw [ek]
        cases h : okN kd vl (j + 2) 0 dk with
        | false => rfl
        | true =>
          rw [h] at hi2'
          have z : false = true := hi2'
          cases z
    | true =>
      have hq2 := Bool.and_eq_true_iff.1 hi2'.symm
      have es : s1 = vl (j + 2) := hs1
      subst es
      rcases hwh with rfl | rfl
      · show (if (2 : Int32) = 2 then _ else _) = (true, dRof d (vl (j + 1)) (vl (j + 2)), j + 3)
        rw [if_pos rfl]
        refine bodR_3 (en ▸ hq.1) ⟨ek ▸ hq2.1, ?_⟩
        have := hq2.2
        rw [decide_eq_false (by decide : ¬ (2 : Int32) = 3), Bool.false_or, Bool.or_eq_true, decide_eq_true_eq, decide_eq_true_eq] at this
        exact this
      · show (if (3 : Int32) = 2 then _ else _) = (true, dBnd d (vl (j + 1)) (vl (j + 2)), j + 3)
        rw [if_neg (by decide)]
        have hb : d.2.1.2.2.2 (vl (j + 1)) = (-9) := by
          have := hq.2
          rw [decide_eq_false (by decide : ¬ (3 : Int32) = 2), Bool.false_or] at this
          exact of_decide_eq_true this
        exact bodB_3 ⟨en ▸ hq.1, hb⟩ (ek ▸ hq2.1)
theorem mR_rof (hR : mR d dk dn dw ww xs ys bo dr pr bu) (a s : Nat) : mR (dRof d a s) dk dn dw ww xs ys bo (upd dr a (nI s)) pr bu := ⟨tR_rof hR.1 a s, hR.2⟩
theorem mR_bnd (hR : mR d dk dn dw ww xs ys bo dr pr bu) (a s : Nat) : mR (dBnd d a s) dk dn dw ww xs ys (upd bo (8 + a) (nI s)) (upd dr a (nI s)) pr bu := ⟨by rw [sh8_upd]; exact tR_bnd hR.1 a s, hR.2⟩
theorem mR_srt (hR : mR d dk dn dw ww xs ys bo dr pr bu) (p u : Nat) : mR (dSrt d p u) (dk + 1) dn dw ww xs ys bo dr (upd pr (4 + dk) (nI p)) (upd bu (4 + dk) (nI u)) := ⟨by rw [sh4_upd, sh4_upd]; exact tR_srt hR.1 p u, hR.2⟩
theorem mR_hou (hR : mR d dk dn dw ww xs ys bo dr pr bu) (a b : Nat) : mR (dHou d a b) dk (dn + 1) dw ww (upd xs (8 + dn) (nI a)) (upd ys (8 + dn) (nI b)) (upd bo (8 + dn) (-9)) (upd dr dn (-9)) pr bu := ⟨by rw [sh8_upd, sh8_upd, sh8_upd]; exact tR_hou hR.1 a b, hR.2⟩
theorem mR_wnd (hR : mR d dk dn dw ww xs ys bo dr pr bu) {w : Nat} {dw2 : Int32} (h : dw2 = nI w) : mR (dWnd d w) dk dn dw2 true xs ys bo dr pr bu := ⟨tR_wnd hR.1 w, h⟩
end MRE
/-! the other items on the reference's side -/
section MRI
variable {d : DT} {dk dn : Nat} {dw : Int32} {ww : Bool} {xs ys bo dr pr bu : Nat → Int32} {kd vl : Nat → Nat} {j : Nat}
theorem hea_S (h : heaB kd d j = true) (hk : kd j = 4) : d.1.2.1 < 4 := by unfold heaB at h; rw [if_pos hk] at h; exact of_decide_eq_true h
theorem hea_H (h : heaB kd d j = true) (hk : kd j = 5) : d.1.1 < 8 := by unfold heaB at h; rw [if_neg (by omega), if_pos hk] at h; exact of_decide_eq_true h
theorem hea_W (h : heaB kd d j = true) (hk : kd j = 8) : d.1.2.2.2 = false := by
  unfold heaB at h
  rw [if_neg (by omega), if_neg (by omega), if_pos hk] at h
  cases hq : d.1.2.2.2 with
  | false => rfl
  | true => rw [hq] at h; exact absurd h (by decide)
theorem wh_23 {c : Nat} (hc : c ≤ 4) (h0 : ¬ c = 0) (h1 : ¬ c = 1) (h4 : ¬ c = 4) : nI c = 2 ∨ nI c = 3 := by
  rcases (show c = 2 ∨ c = 3 by omega) with rfl | rfl
  · exact Or.inl rfl
  · exact Or.inr rfl
theorem rb_eq {c : Nat} (hkd : kd j = c + 4) (hc : c ≤ 4) (h0 : ¬ c = 0) (h1 : ¬ c = 1) (h4 : ¬ c = 4) : bodI kd vl d j = if nI c = 2 then bodR kd vl d j else bodB kd vl d j := by
  rcases (show c = 2 ∨ c = 3 by omega) with rfl | rfl
  · rw [bodI_R hkd, if_pos (by decide)]
  · rw [bodI_B hkd, if_neg (by decide)]
theorem srt_end (hR : mR d dk dn dw ww xs ys bo dr pr bu) : mdQ (bodS kd vl d j) (true && okN kd vl (j + 1) 1 100 && okN kd vl (jN true (okN kd vl (j + 1) 1 100) (j + 1)) 0 10) (jN (true && okN kd vl (j + 1) 1 100) (okN kd vl (jN true (okN kd vl (j + 1) 1 100) (j + 1)) 0 10) (jN true (okN kd vl (j + 1) 1 100) (j + 1))) (dk + 1) dn dw ww xs ys bo dr
    (upd pr (4 + dk) (nI (if (true && okN kd vl (j + 1) 1 100) = true then vl (j + 1) else 0))) (upd bu (4 + dk) (nI (if (true && okN kd vl (j + 1) 1 100 && okN kd vl (jN true (okN kd vl (j + 1) 1 100) (j + 1)) 0 10) = true then vl (jN true (okN kd vl (j + 1) 1 100) (j + 1)) else 0))) := by
  cases h1 : okN kd vl (j + 1) 1 100 with
  | false => rw [bodS_1 h1]; exact ⟨rfl, rfl, fun q => by cases q⟩
  | true =>
    show mdQ _ (okN kd vl (j + 2) 0 10) (jN true (okN kd vl (j + 2) 0 10) (j + 2)) _ _ _ _ _ _ _ _ _ (upd bu (4 + dk) (nI (if okN kd vl (j + 2) 0 10 = true then vl (j + 2) else 0)))
    cases h2 : okN kd vl (j + 2) 0 10 with
    | false => rw [bodS_2 h1 h2]; exact ⟨rfl, rfl, fun q => by cases q⟩
    | true => rw [bodS_3 h1 h2]; exact ⟨rfl, rfl, fun _ => mR_srt hR _ _⟩
theorem cur_v8 {F : Nat → Nat} {ty : Nat} {va : Int32} (hva : vaOK F ty (stP F ty j) va) : okN (kdF F ty) (vlF F ty) j 0 8 = true → va = nI (vlF F ty j) := cur_val hva
theorem hou_end {i2 : Bool} {a1 b1 : Nat} {va : Int32} (hR : mR d dk dn dw ww xs ys bo dr pr bu) (hd : dOK d) (hva : okN kd vl (jN true (okN kd vl (j + 1) 0 8) (j + 1)) 0 8 = true → va = nI (vl (jN true (okN kd vl (j + 1) 0 8) (j + 1)))) (ha1 : a1 = (if (true && okN kd vl (j + 1) 0 8) = true then vl (j + 1) else 0))
    (hi2 : i2 = (okN kd vl (jN true (okN kd vl (j + 1) 0 8) (j + 1)) 0 8 && !(anyN (fun g => decide (xs (8 + g) = nI a1 ∧ ys (8 + g) = va)) dn))) (hb1 : b1 = (if (true && okN kd vl (j + 1) 0 8 && i2) = true then vl (jN true (okN kd vl (j + 1) 0 8) (j + 1)) else 0)) :
    mdQ (bodH kd vl d j) (true && okN kd vl (j + 1) 0 8 && i2) (jN (true && okN kd vl (j + 1) 0 8) i2 (jN true (okN kd vl (j + 1) 0 8) (j + 1))) dk (dn + 1) dw ww (upd xs (8 + dn) (nI a1)) (upd ys (8 + dn) (nI b1)) (upd bo (8 + dn) (-9)) (upd dr dn (-9)) pr bu := by
  cases h1 : okN kd vl (j + 1) 0 8 with
  | false => rw [bodH_1 h1]; exact ⟨rfl, rfl, fun q => by cases q⟩
  | true =>
    rw [h1] at hva ha1 hi2 hb1
    have ha : a1 = vl (j + 1) := ha1
    subst ha
    have hl1 := (okN_iff.1 h1).2.2
    have hva' : okN kd vl (j + 2) 0 8 = true → va = nI (vl (j + 2)) := hva
    have hi2' : i2 = (okN kd vl (j + 2) 0 8 && !(anyN (fun g => decide (xs (8 + g) = nI (vl (j + 1)) ∧ ys (8 + g) = va)) dn)) := hi2
    have hany : okN kd vl (j + 2) 0 8 = true → anyN (fun g => decide (xs (8 + g) = nI (vl (j + 1)) ∧ ys (8 + g) = va)) dn = hasAt d (vl (j + 1)) (vl (j + 2)) := fun q => by
      have hl2 := (okN_iff.1 q).2.2
      rw [hva' q]
      exact hasAt_any hR.1 hd (by omega) (by omega)
    cases i2 with
    | false =>
      rw [bodH_2 h1 (fun q => by
        rw [q.1, hany q.1, q.2] at hi2'
        exact absurd hi2' (by decide))]
      exact ⟨rfl, rfl, fun q => by cases q⟩
    | true =>
      have hq := Bool.and_eq_true_iff.1 hi2'.symm
      have hb : b1 = vl (j + 2) := hb1
      subst hb
      have hno : hasAt d (vl (j + 1)) (vl (j + 2)) = false := by
        rw [← hany hq.1]
        have := hq.2
        cases hz : anyN (fun g => decide (xs (8 + g) = nI (vl (j + 1)) ∧ ys (8 + g) = va)) dn with
        | false => rfl
        | true => rw [hz] at this; exact absurd this (by decide)
      rw [bodH_3 h1 ⟨hq.1, hno⟩]
      exact ⟨rfl, rfl, fun _ => mR_hou hR _ _⟩
theorem wnd_all : ∀ c : Fin 10, inr (nI c.val) 5 9 = decide (5 ≤ c.val) := by decide +kernel
theorem wnd_iff {F : Nat → Nat} {ty : Nat} {va : Int32} (hva : vaOK F ty (stP F ty j) va) : (tkK F ty (stP F ty j) = 1 ∧ inr va 5 9 = true) ↔ (9 ≤ kdF F ty j ∧ kdF F ty j ≤ 13) := by
  show _ ↔ 9 ≤ ckN F ty (stP F ty j) ∧ ckN F ty (stP F ty j) ≤ 13
  rcases tk_case (F := F) (ty := ty) (s := stP F ty j) with ⟨q1, q2⟩ | ⟨q1, q2⟩ | ⟨q1, q2⟩ | ⟨q1, q2, q3, q4⟩ | ⟨c, hc, q1, q2, q3⟩
  · exact ⟨fun z => by omega, fun z => by omega⟩
  · exact ⟨fun z => by omega, fun z => by omega⟩
  · exact ⟨fun z => by omega, fun z => by omega⟩
  · exact ⟨fun z => by omega, fun z => by omega⟩
  · have e : va = nI c := (hva.1 q2).trans q3
    have ea : inr (nI c) 5 9 = decide (5 ≤ c) := wnd_all ⟨c, hc⟩
    rw [e, ea, decide_eq_true_eq]
    exact ⟨fun z => by omega, fun z => ⟨q2, by omega⟩⟩
theorem wnd_y {F : Nat → Nat} {ty : Nat} {va : Int32} (hva : vaOK F ty (stP F ty j) va) (h1 : tkK F ty (stP F ty j) = 1) (h2 : inr va 5 9 = true) : decide (9 ≤ kdF F ty j ∧ kdF F ty j ≤ 13) = true := decide_eq_true ((wnd_iff hva).1 ⟨h1, h2⟩)
theorem wnd_no {F : Nat → Nat} {ty : Nat} {va : Int32} (hva : vaOK F ty (stP F ty j) va) (h : ¬ (tkK F ty (stP F ty j) = 1 ∧ inr va 5 9 = true)) : decide (9 ≤ kdF F ty j ∧ kdF F ty j ≤ 13) = false := decide_eq_false (fun q => h ((wnd_iff hva).2 q))
theorem wnd_v {F : Nat → Nat} {ty : Nat} {va : Int32} (hva : vaOK F ty (stP F ty j) va) : (9 ≤ kdF F ty j ∧ kdF F ty j ≤ 13) → va - 5 = nI (kdF F ty j - 9) := by
  intro h
  have h' : 9 ≤ ckN F ty (stP F ty j) ∧ ckN F ty (stP F ty j) ≤ 13 := h
  show va - 5 = nI (ckN F ty (stP F ty j) - 9)
  rcases tk_case (F := F) (ty := ty) (s := stP F ty j) with ⟨q1, q2⟩ | ⟨q1, q2⟩ | ⟨q1, q2⟩ | ⟨q1, q2, q3, q4⟩ | ⟨c, hc, q1, q2, q3⟩
  · omega
  · omega
  · omega
  · omega
  · rw [hva.1 q2, q3, q1, show c + 4 - 9 = c - 5 by omega]
    exact pk_sub (show 5 ≤ c by omega)
theorem wnd_end {i3 : Bool} {va : Int32} (hR : mR d dk dn dw ww xs ys bo dr pr bu) (hi3 : i3 = decide (9 ≤ kd (j + 1) ∧ kd (j + 1) ≤ 13)) (hv : (9 ≤ kd (j + 1) ∧ kd (j + 1) ≤ 13) → va - 5 = nI (kd (j + 1) - 9)) : mdQ (bodW kd d j) (true && i3) (jN true i3 (j + 1)) dk dn ((if (true && i3) = true then va else 0) - 5) true xs ys bo dr pr bu := by
  cases i3 with
  | false => rw [bodW_1 (of_decide_eq_false hi3.symm)]; exact ⟨rfl, rfl, fun q => by cases q⟩
  | true => rw [bodW_2 (of_decide_eq_true hi3.symm)]; exact ⟨rfl, rfl, fun _ => mR_wnd hR (hv (of_decide_eq_true hi3.symm))⟩
end MRI
