/-! what both objects hold between two calls -/
def tI (n k : Nat) (xs ys bo pr bu mxs mys mbo mpr mbu : Nat → Int32) : Prop := (n ≤ 8 ∧ k ≤ 4) ∧ cOK n xs ys ∧ rOK n k bo ∧ pOK k pr bu ∧ (agF n xs mxs ∧ agF n ys mys ∧ agF n bo mbo) ∧ agF k pr mpr ∧ agF k bu mbu
def nowI (n k wn : Nat) (dr : Int32) (sn : Nat) (rf sh sm s_ : Nat → Int32) : Prop := wn ≤ 4 ∧ sn ≤ 8 ∧ rOK n k rf ∧ agF n rf s_ ∧ s_ 8 = nI wn ∧ s_ 9 = dr ∧ s_ 10 = nI sn ∧ agF sn sh (fun i => s_ (11 + 2 * i)) ∧ agF sn sm (fun i => s_ (11 + 2 * i + 1)) ∧ ∀ i, i < sn → ∃ g, g < 8 ∧ sh i = nI g
def imI (n k : Nat) (ak : Bool) (aw : Nat) (al : Int32) (an : Nat) (ar ah am ik kp : Nat → Int32) (q : Nat) : Prop := (ak = false → ik q = 0) ∧ (ak = true → ¬ ik q = 0 ∧ nowI n k aw al an ar ah am (fun j => kp (27 * q + j)))
section NOW
variable {n k wn sn : Nat} {dr : Int32} {xs ys rf bo pr bu sh sm s_ s2 mxs mys mbo mpr mbu pr2 bu2 : Nat → Int32}
theorem pok_c (h : pOK k pr bu) (hp : agF k pr pr2) (hu : agF k bu bu2) : pOK k pr2 bu2 := fun v hv => by rw [← hp v hv, ← hu v hv]; exact h v hv
theorem now_c (hn : n ≤ 8) (h : nowI n k wn dr sn rf sh sm s_) (e : ∀ j, j < 27 → s2 j = s_ j) : nowI n k wn dr sn rf sh sm s2 := by
  obtain ⟨h1, h2, h3, h4, h5, h6, h7, h8, h9, h10⟩ := h
  refine ⟨h1, h2, h3, fun j hj => (h4 j hj).trans (e j (by omega)).symm, (e 8 (by omega)).trans h5, (e 9 (by omega)).trans h6, (e 10 (by omega)).trans h7, fun j hj => (h8 j hj).trans (e _ (by omega)).symm, fun j hj => (h9 j hj).trans (e _ (by omega)).symm, h10⟩
theorem now_roof (hn : n ≤ 8) (hk : k ≤ 4) (hb : agF n bo mbo) (h : nowI n k wn dr sn rf sh sm s_) (a v : Int32) : nowI n k wn dr sn (nRoof n k rf bo a v) sh sm (nRoof n k s_ mbo a v) := by
  obtain ⟨h1, h2, h3, h4, h5, h6, h7, h8, h9, h10⟩ := h
  have e : ∀ j, 8 ≤ j → nRoof n k s_ mbo a v j = s_ j := fun j hj => nRoof_hi hn a v hj
  exact ⟨h1, h2, nRoof_ok hn hk h3 a v, nRoof_c hn h4 hb a v, (e 8 (by omega)).trans h5, (e 9 (by omega)).trans h6, (e 10 (by omega)).trans h7, fun j hj => (h8 j hj).trans (e _ (by omega)).symm, fun j hj => (h9 j hj).trans (e _ (by omega)).symm, h10⟩
theorem now_upd (hn : n ≤ 8) (h : nowI n k wn dr sn rf sh sm s_) {q : Nat} {v : Int32} (hq : 8 ≤ q) (hq2 : q ≤ 10) : rOK n k rf ∧ agF n rf (upd s_ q v) ∧ agF sn sh (fun i => upd s_ q v (11 + 2 * i)) ∧ agF sn sm (fun i => upd s_ q v (11 + 2 * i + 1)) := by
  obtain ⟨h1, h2, h3, h4, h5, h6, h7, h8, h9, h10⟩ := h
  exact ⟨h3, fun j hj => (h4 j hj).trans (pk_un (by omega)).symm, fun j hj => (h8 j hj).trans (pk_un (by omega)).symm, fun j hj => (h9 j hj).trans (pk_un (by omega)).symm⟩
theorem now_wind (hn : n ≤ 8) (h : nowI n k wn dr sn rf sh sm s_) {w : Int32} {wn2 : Nat} (e : nI wn2 = (if inr w 0 4 = true then w else nI wn) ∧ (wn ≤ 4 → wn2 ≤ 4)) : nowI n k wn2 dr sn rf sh sm (nWind s_ w) := by
  have hu := now_upd (v := w) hn h (show 8 ≤ 8 by omega) (by omega)
  obtain ⟨h1, h2, h3, h4, h5, h6, h7, h8, h9, h10⟩ := h
  have e2 := e.2 h1
  unfold nWind
  by_cases q : inr w 0 4 = true
  · rw [if_pos q]
    have e1 := e.1
    rw [if_pos q] at e1
    exact ⟨e2, h2, h3, hu.2.1, pk_us.trans e1.symm, (pk_un (by omega)).trans h6, (pk_un (by omega)).trans h7, hu.2.2.1, hu.2.2.2, h10⟩
  · rw [if_neg q]
    have e1 := e.1
    rw [if_neg q] at e1
    exact ⟨e2, h2, h3, h4, h5.trans e1.symm, h6, h7, h8, h9, h10⟩
theorem now_forget (hn : n ≤ 8) (h : nowI n k wn dr sn rf sh sm s_) : nowI n k wn dr 0 rf sh sm (upd s_ 10 0) := by
  have hu := now_upd (v := 0) hn h (show 8 ≤ 10 by omega) (by omega)
  obtain ⟨h1, h2, h3, h4, h5, h6, h7, h8, h9, h10⟩ := h
  exact ⟨h1, by omega, h3, hu.2.1, (pk_un (by omega)).trans h5, (pk_un (by omega)).trans h6, pk_us, fun j hj => absurd hj (Nat.not_lt_zero _), fun j hj => absurd hj (Nat.not_lt_zero _), fun j hj => absurd hj (Nat.not_lt_zero _)⟩
theorem now_lot (hn : n ≤ 8) (h : nowI n k wn dr sn rf sh sm s_) {d2 : Int32} (e : ∀ j, ¬ j = 9 → s2 j = s_ j) (e9 : s2 9 = d2) : nowI n k wn d2 sn rf sh sm s2 := by
  obtain ⟨h1, h2, h3, h4, h5, h6, h7, h8, h9, h10⟩ := h
  exact ⟨h1, h2, h3, fun j hj => (h4 j hj).trans (e j (by omega)).symm, (e 8 (by omega)).trans h5, e9, (e 10 (by omega)).trans h7, fun j hj => (h8 j hj).trans (e _ (by omega)).symm, fun j hj => (h9 j hj).trans (e _ (by omega)).symm, h10⟩
theorem now_saw (hn : n ≤ 8) (h : nowI n k wn dr sn rf sh sm s_) {a mi : Int32} {sn2 : Nat} {sh2 sm2 : Nat → Int32} (e : (sn2, sh2, sm2) = (if inb a n = true ∧ (mi = (-9) ∨ inr mi 0 99 = true) then seenN sn sh sm a mi else (sn, sh, sm))) : nowI n k wn dr sn2 rf sh2 sm2 (nSaw n sn s_ a mi) := by
  have h' := h
  obtain ⟨h1, h2, h3, h4, h5, h6, h7, h8, h9, h10⟩ := h
  by_cases q : inb a n = true ∧ (mi = (-9) ∨ inr mi 0 99 = true)
  · rw [if_pos q] at e
    have e1 : nSaw n sn s_ a mi = pSaw sn s_ a mi := by
      unfold nSaw
      rw [if_pos q.1]
      rcases q.2 with z | z
      · rw [if_pos z]
      · by_cases z2 : mi = (-9)
        · rw [if_pos z2]
        · rw [if_neg z2, if_pos z]
    obtain ⟨g, hg, ea⟩ := inb_nI (by omega) q.1
    rw [e1]
    unfold pSaw
    unfold seenN at e
    by_cases z : sn < 8
    · rw [if_pos z] at e
      rw [if_neg (by omega)]
      obtain ⟨rfl, rfl, rfl⟩ : sn2 = sn + 1 ∧ sh2 = upd sh sn a ∧ sm2 = upd sm sn mi := by simpa using e
      have key : ∀ j, j < 10 → upd (upd (upd s_ (11 + 2 * sn) a) (11 + 2 * sn + 1) mi) 10 (nI (sn + 1)) j = s_ j := fun j hj => by
        rw [pk_un (by omega), pk_un (by omega), pk_un (by omega)]
      refine ⟨h1, by omega, h3, fun j hj => (h4 j hj).trans (key j (by omega)).symm, (key 8 (by omega)).trans h5, (key 9 (by omega)).trans h6, pk_us, fun j hj => ?_, fun j hj => ?_, fun j hj => ?_⟩
      · show upd sh sn a j = upd (upd (upd s_ (11 + 2 * sn) a) (11 + 2 * sn + 1) mi) 10 (nI (sn + 1)) (11 + 2 * j)
        rw [pk_un (show 11 + 2 * j ≠ 10 by omega), pk_un (show 11 + 2 * j ≠ 11 + 2 * sn + 1 by omega)]
        by_cases y : j = sn
        · subst y; rw [pk_us, pk_us]
        · rw [pk_un y, pk_un (show 11 + 2 * j ≠ 11 + 2 * sn by omega)]; exact h8 j (by omega)
      · show upd sm sn mi j = upd (upd (upd s_ (11 + 2 * sn) a) (11 + 2 * sn + 1) mi) 10 (nI (sn + 1)) (11 + 2 * j + 1)
        rw [pk_un (show 11 + 2 * j + 1 ≠ 10 by omega)]
        by_cases y : j = sn
        · subst y; rw [pk_us, pk_us]
        · rw [pk_un y, pk_un (show 11 + 2 * j + 1 ≠ 11 + 2 * sn + 1 by omega), pk_un (show 11 + 2 * j + 1 ≠ 11 + 2 * sn by omega)]; exact h9 j (by omega)
      · show ∃ g, g < 8 ∧ upd sh sn a j = nI g
        by_cases y : j = sn
        · subst y; rw [pk_us]; exact ⟨g, by omega, ea⟩
        · rw [pk_un y]; exact h10 j (by omega)
    · rw [if_neg z] at e
      rw [if_pos (by omega)]
      obtain ⟨rfl, rfl, rfl⟩ : sn2 = sn ∧ sh2 = sh ∧ sm2 = sm := by simpa using e
      exact h'
  · rw [if_neg q] at e
    have e1 : nSaw n sn s_ a mi = s_ := by
      unfold nSaw
      by_cases z : inb a n = true
      · rw [if_pos z, if_neg (fun y => q ⟨z, Or.inl y⟩), if_neg (fun y => q ⟨z, Or.inr y⟩)]
      · rw [if_neg z]
    rw [e1]
    obtain ⟨rfl, rfl, rfl⟩ : sn2 = sn ∧ sh2 = sh ∧ sm2 = sm := by simpa using e
    exact h'
variable {ak : Bool} {aw an : Nat} {al : Int32} {ar ah am ik ik2 kp kp2 : Nat → Int32}
theorem im_none {q : Nat} (h : ik q = 0) : imI n k false aw al an ar ah am ik kp q := ⟨fun _ => h, (fun z => by cases z)⟩
theorem im_same (h : nowI n k wn dr sn rf sh sm s_) {q : Nat} (hn : n ≤ 8) (hq : keptR kp s_ kp2 q 27) (e : ik2 = upd ik q 1) : imI n k true wn dr sn rf sh sm ik2 kp2 q :=
  ⟨(fun z => by cases z), fun _ => ⟨by rw [e, pk_us]; decide, now_c hn h (fun j hj => hq.1 j hj)⟩⟩
theorem im_other {q2 : Nat} (h : imI n k ak aw al an ar ah am ik kp q2) {q : Nat} (hn : n ≤ 8) (hd : ¬ q2 = q) (hq : keptR kp s_ kp2 q 27) (e : ik2 = upd ik q 1) : imI n k ak aw al an ar ah am ik2 kp2 q2 := by
  have e1 : ik2 q2 = ik q2 := by rw [e]; exact pk_un hd
  refine ⟨fun z => e1.trans (h.1 z), fun z => ⟨by rw [e1]; exact (h.2 z).1, now_c hn (h.2 z).2 (fun j hj => hq.2 _ (by omega))⟩⟩
theorem tn_0 : tn (0 : Int32) = 0 := by decide
theorem tn_1 : tn (1 : Int32) = 1 := by decide
theorem kp_y0 {x : Int32} : x = (if inr (0 : Int32) 0 1 = true then x else (-1)) := (if_pos (by decide)).symm
theorem kp_y1 {x : Int32} : x = (if inr (1 : Int32) 0 1 = true then x else (-1)) := (if_pos (by decide)).symm
theorem kp_no {x im : Int32} (h : inr im 0 1 = false) : (-1 : Int32) = (if inr im 0 1 = true then x else (-1)) := (if_neg (bfne h)).symm
theorem bk_n0 (h : ik 0 = 0) : (-2 : Int32) = (if inr (0 : Int32) 0 1 = true then (if ik (tn (0 : Int32)) = 0 then (-2) else kp (27 * tn (0 : Int32) + 10)) else (-1)) := by
  rw [tn_0, if_pos (by decide), if_pos h]
theorem bk_n1 (h : ik 1 = 0) : (-2 : Int32) = (if inr (1 : Int32) 0 1 = true then (if ik (tn (1 : Int32)) = 0 then (-2) else kp (27 * tn (1 : Int32) + 10)) else (-1)) := by
  rw [tn_1, if_pos (by decide), if_pos h]
theorem bk_y0 {x : Int32} (h : ¬ ik 0 = 0) (e : kp (27 * 0 + 10) = x) : x = (if inr (0 : Int32) 0 1 = true then (if ik (tn (0 : Int32)) = 0 then (-2) else kp (27 * tn (0 : Int32) + 10)) else (-1)) := by
  rw [tn_0, if_pos (by decide), if_neg h]; exact e.symm
theorem bk_y1 {x : Int32} (h : ¬ ik 1 = 0) (e : kp (27 * 1 + 10) = x) : x = (if inr (1 : Int32) 0 1 = true then (if ik (tn (1 : Int32)) = 0 then (-2) else kp (27 * tn (1 : Int32) + 10)) else (-1)) := by
  rw [tn_1, if_pos (by decide), if_neg h]; exact e.symm
/-! texts -/
theorem by_lt (v : Int64) (i : Nat) : byV v i < 256 := Nat.mod_lt _ (by decide)
theorem ty_le {ty : Nat} {m_ : Int32} (h : ty ≤ 300) : tyF ty m_ ≤ 300 := by
  unfold tyF
  split
  · split
    · assumption
    · exact h
  · exact h
theorem tx_ok {bt : Nat → Nat} {tx : Nat → Int32} {ty : Nat} {v : Int64} {m_ : Int32} (h : txOK bt tx ty) : txOK (btF bt v ty m_) (txF tx v ty m_) (tyF ty m_) := by
  unfold btF txF tyF
  split
  · split
    · intro j hj
      show apI tx v ty (tn m_) (tn m_) j = nI (apB bt v ty (tn m_) (tn m_) j) ∧ apB bt v ty (tn m_) (tn m_) j < 256
      unfold apI apB
      by_cases q : ty ≤ j ∧ j < ty + tn m_
      · rw [if_pos q, if_pos q]; exact ⟨rfl, by_lt _ _⟩
      · rw [if_neg q, if_neg q]; exact h j (by omega)
    · exact h
  · exact h
theorem tx_fOK {bt : Nat → Nat} {tx : Nat → Int32} {ty : Nat} (h : txOK bt tx ty) : fOK bt ty := fun j hj => (h j hj).2
/-! a town told anew -/
theorem tw_tI {d : DT} {wn2 : Nat} {wt wt2 : Bool} {r2 : Nat → Int32} (hd : dOK d) (hc : tR d n k wn wt xs ys rf bo pr bu) (hm : tR d n k wn2 wt2 mxs mys r2 mbo mpr mbu) : tI n k xs ys bo pr bu mxs mys mbo mpr mbu := by
  obtain ⟨e1, e2, -, -⟩ := tR_eq hc
  obtain ⟨d1, d2, d3, d4, d5, d6, d7⟩ := hd
  rw [e1] at d1 d4 d5 d6
  rw [e2] at d2 d6 d7
  obtain ⟨-, c2, c3⟩ := hc
  obtain ⟨-, m2, m3⟩ := hm
  refine ⟨⟨d1, d2⟩, ⟨fun g hg => ⟨⟨_, (d4 g hg).1, (c2 g hg).1⟩, ⟨_, (d4 g hg).2, (c2 g hg).2.1⟩⟩, fun g h hg hh q1 q2 => ?_⟩, fun h hh => ?_, fun v hv => ⟨⟨_, (d7 v hv).1.1, (d7 v hv).1.2, (c3 v hv).1⟩, ⟨_, (d7 v hv).2, (c3 v hv).2⟩⟩,
    ⟨fun j hj => (c2 j hj).1.trans (m2 j hj).1.symm, fun j hj => (c2 j hj).2.1.trans (m2 j hj).2.1.symm, fun j hj => (c2 j hj).2.2.2.trans (m2 j hj).2.2.2.symm⟩, fun j hj => (c3 j hj).1.trans (m3 j hj).1.symm, fun j hj => (c3 j hj).2.trans (m3 j hj).2.symm⟩
  · rw [(c2 g hg).1, (c2 h hh).1, nI_eq (by have := (d4 g hg).1; omega) (by have := (d4 h hh).1; omega)] at q1
    rw [(c2 g hg).2.1, (c2 h hh).2.1, nI_eq (by have := (d4 g hg).2; omega) (by have := (d4 h hh).2; omega)] at q2
    exact d5 g h hg hh q1 q2
  · rw [(c2 h hh).2.2.2]; exact (d6 h hh).2
theorem tw_now {d : DT} {wn2 : Nat} {wt wt2 : Bool} (hd : dOK d) (hc : tR d n k wn wt xs ys rf bo pr bu) (hm : tR d n k wn2 wt2 mxs mys s2 mbo mpr mbu) (e8 : s2 8 = nI d.1.2.2.1) (e9 : s2 9 = dr) (e10 : s2 10 = 0) : nowI n k wn dr 0 rf sh sm s2 := by
  obtain ⟨e1, e2, e3, -⟩ := tR_eq hc
  obtain ⟨d1, d2, d3, d4, d5, d6, d7⟩ := hd
  rw [e1] at d6
  rw [e2] at d6
  rw [e3] at d3 e8
  obtain ⟨-, c2, c3⟩ := hc
  obtain ⟨-, m2, m3⟩ := hm
  exact ⟨d3, by omega, fun h hh => by rw [(c2 h hh).2.2.1]; exact (d6 h hh).1, fun j hj => (c2 j hj).2.2.1.trans (m2 j hj).2.2.1.symm, e8, e9, e10, fun j hj => absurd hj (Nat.not_lt_zero _), fun j hj => absurd hj (Nat.not_lt_zero _), fun j hj => absurd hj (Nat.not_lt_zero _)⟩
theorem tw_kp {mxs2 mys2 mbo2 mpr2 mbu2 : Nat → Int32} (h : tI n k xs ys bo pr bu mxs mys mbo mpr mbu) (q : kpT mxs mys mbo mpr mbu mxs2 mys2 mbo2 mpr2 mbu2) : tI n k xs ys bo pr bu mxs2 mys2 mbo2 mpr2 mbu2 := by
  obtain ⟨⟨h1, h2⟩, h3, h4, h5, ⟨h6, h7, h8⟩, h9, h10⟩ := h
  exact ⟨⟨h1, h2⟩, h3, h4, h5, ⟨fun j hj => (h6 j hj).trans (q.1 j (by omega)).1.symm, fun j hj => (h7 j hj).trans (q.1 j (by omega)).2.1.symm, fun j hj => (h8 j hj).trans (q.1 j (by omega)).2.2.symm⟩, fun j hj => (h9 j hj).trans (q.2 j (by omega)).1.symm, fun j hj => (h10 j hj).trans (q.2 j (by omega)).2.symm⟩
end NOW
section XSLD
variable {p : Program} {l : Launch} {e : Env} {R : Room} {s : State} {m : MethodId} {args : Array Value} {below : List Frame} {meth : Method} {c : Code} {H : Heap} {locs : List Loc} {cells slots : Nat} {Q : State → Prop} {pc : Nat} {ls : Array Slot} {cc : ByteArray} {rest : List Value} {A : Nat → Prop} {b L : Nat} {zs : Nat → Int32}
theorem x_sld (hexec : p.tables.exec = Jvm.exec) (hb : c.code = cc) (hX : va_X b L zs s s.heap) (hbl : b < s.heap.size) (hbA : ¬ A b) (hS : va_S A s.heap H locs) {j : Nat} (hj : j < L) (hL : L ≤ 2560) (hdg : decode cc pc = .ok (.iaload, 1))
    (kk : W p l e R s m args below meth c H locs cells slots Q (F0 m (pc + 1) ls (.int (zs j) :: rest))) : W p l e R s m args below meth c H locs cells slots Q (F0 m pc ls (.int (nI j) :: .ref b :: rest)) := by
  refine va_sld hexec hb hX hbl hbA hS (vp_in_nI hj (by omega)) hdg ?_
  rw [nI_clamp (by omega)]
  exact kk
end XSLD
/-- from the head of the loop, at a call, whatever both objects hold -/
def LHd (p : Program) (l : Launch) (e : Env) (s : State) (m : MethodId) (below : List Frame) (meth : Method) (c : Code) (D : va_G) (cI cZ cO : ClassId) (A : Nat → Prop) (Q : State → Prop) (b : Nat) (i : Nat) : Prop := ∀ (u0 : Nat) (t0 : Nat) (t1 : Nat) (k0 : Nat) (k1 : Nat) (k2 : Nat) (k3 : Nat) (e0 : Nat) (e1 : Nat) (e2 : Nat) (e3 : Nat) (e4 : Nat) (e5 : Nat) (e6 : Nat) (f0 : Nat) (f1 : Nat) (s0 : Nat) (s1 : Nat) (s2 : Nat) (r0 : Nat) (g0 : Nat) (a0 : Nat) (a1 : Nat) (a2 : Nat) (a3 : Nat) (a4 : Nat) (b0 : Nat) (b1 : Nat) (b2 : Nat) (b3 : Nat) (b4 : Nat) (o0 : Nat) (o1 : Nat) (o2 : Nat) (o3 : Nat) (o4 : Nat) (o5 : Nat) (o6 : Nat) (do0 : Nat) (do1 : Nat) (do2 : Nat) (do3 : Nat) (do4 : Nat) (do5 : Nat) (do6 : Nat) (q0 : Nat) (q1 : Nat) (q2 : Nat) (q3 : Nat) (q4 : Nat) (q5 : Nat) (q6 : Nat) (q7 : Nat) (q8 : Nat) (q9 : Nat) (q10 : Nat) (q11 : Nat) (q12 : Nat) (q13 : Nat) (dr : Int32) (ty : Nat) (bt : Nat → Nat) (tz : Nat) (ta : Nat) (ts_ : Nat) (tn_ : Nat) (tv_ : Nat) (tkk : Nat → Nat) (tkv : Nat → Nat) (tks : Nat → Nat) (ns : Nat) (ks : Nat) (LL : Nat) (NE : Nat → Nat) (AL : Nat → Nat) (PI : Nat → Nat) (BE : Nat → Nat) (CO : Nat → Nat) (AH : Nat → Nat) (fbt : Int32) (flc : Int32) (fsi : Nat → Int32) (sn : Nat) (sh : Nat → Int32) (sm : Nat → Int32) (as_ : Int64) (aw : Nat) (al : Int32) (ak : Bool) (ar : Nat → Int32) (an : Nat) (ah : Nat → Int32) (am : Nat → Int32) (bw : Nat) (bl : Int32) (bk : Bool) (br : Nat → Int32) (bn : Nat) (bh : Nat → Int32) (bm : Nat → Int32) (n : Nat) (k : Nat) (wn : Nat) (wt : Bool) (xs : Nat → Int32) (ys : Nat → Int32) (rf : Nat → Int32) (bo : Nat → Int32) (pr : Nat → Int32) (bu : Nat → Int32) (dn_ : Nat) (dk_ : Nat) (dwd : Int32) (dwt : Bool) (dxs : Nat → Int32) (dys : Nat → Int32) (drf : Nat → Int32) (dbo : Nat → Int32) (dpr : Nat → Int32) (dbu : Nat → Int32) (thr : Int32) (nx : Nat) (tk : Int32) (pl : Int32) (va : Int32) (fa : Int32) (mdw : Int32) (mww : Bool) (mdk : Nat) (mdn : Nat) (fw : Int32) (mbt : Int32) (lo : Int32) (en : Int32) (tx : Nat → Int32) (mpr : Nat → Int32) (mbu : Nat → Int32) (mxs : Nat → Int32) (mys : Nat → Int32) (mbo : Nat → Int32) (mdr : Nat → Int32) (s_ : Nat → Int32) (kp : Nat → Int32) (ik : Nat → Int32) (tr : Nat → Int32) (be : Nat → Int32) (si : Nat → Int32), (tI n k xs ys bo pr bu mxs mys mbo mpr mbu) → (nowI n k wn dr sn rf sh sm s_) → (imI n k ak aw al an ar ah am ik kp 0) → (imI n k bk bw bl bn br bh bm ik kp 1) → (ty ≤ 300) → (txOK bt tx ty) → ∀ (H : Heap) (locs : List Loc), va_P D vwCl [(u0, .inr (8, [.ref t0, .ref k0, .ref e0, .ref f0, .ref s0, .ref r0, .ref g0, .ref o0, .ref do0, .int dr])), (t0, .inr (5, [.ref t1, .int (nI ty)])), (t1, .inl (cI, 300, .inl (rI bt))), (k0, .inr (6, [.ref k1, .ref k2, .ref k3, .int (nI tz), .int (nI ta), .int (nI ts_), .int (nI tn_), .int (nI tv_)])), (k1, .inl (cI, 301, .inl (rI tkk))), (k2, .inl (cI, 301, .inl (rI tkv))), (k3, .inl (cI, 301, .inl (rI tks))), (e0, .inr (3, [.ref e1, .ref e2, .ref e3, .ref e4, .ref e5, .ref e6, .int (nI ns), .int (nI ks), .int (nI LL)])), (e1, .inl (cI, 8, .inl (rI NE))), (e2, .inl (cI, 8, .inl (rI AL))), (e3, .inl (cI, 8, .inl (rI PI))), (e4, .inl (cI, 8, .inl (rI BE))), (e5, .inl (cI, 32, .inl (rI CO))), (e6, .inl (cI, 9, .inl (rI AH))), (f0, .inr (0, [.ref f1, .int fbt, .int flc])), (f1, .inl (cI, 8, .inl fsi)), (s0, .inr (4, [.ref s1, .ref s2, .int (nI sn)])), (s1, .inl (cI, 8, .inl sh)), (s2, .inl (cI, 8, .inl sm)), (r0, .inr (2, [.long as_])), (g0, .inl (cO, 2, .inr (.inr (.inr (.inr (fun j => if j = 0 then some a0 else some b0)))))), (a0, .inr (1, [.ref a1, .ref a2, .int (nI aw), .int al, .int (bb ak)])), (a1, .inl (cI, 8, .inl ar)), (a2, .inr (4, [.ref a3, .ref a4, .int (nI an)])), (a3, .inl (cI, 8, .inl ah)), (a4, .inl (cI, 8, .inl am)), (b0, .inr (1, [.ref b1, .ref b2, .int (nI bw), .int bl, .int (bb bk)])), (b1, .inl (cI, 8, .inl br)), (b2, .inr (4, [.ref b3, .ref b4, .int (nI bn)])), (b3, .inl (cI, 8, .inl bh)), (b4, .inl (cI, 8, .inl bm)), (o0, .inr (7, [.ref o1, .ref o2, .ref o3, .ref o4, .ref o5, .ref o6, .int (nI n), .int (nI k), .int (nI wn), .int (bb wt)])), (o1, .inl (cI, 8, .inl xs)), (o2, .inl (cI, 8, .inl ys)), (o3, .inl (cI, 8, .inl rf)), (o4, .inl (cI, 8, .inl bo)), (o5, .inl (cI, 4, .inl pr)), (o6, .inl (cI, 4, .inl bu)), (do0, .inr (7, [.ref do1, .ref do2, .ref do3, .ref do4, .ref do5, .ref do6, .int (nI dn_), .int (nI dk_), .int dwd, .int (bb dwt)])), (do1, .inl (cI, 8, .inl dxs)), (do2, .inl (cI, 8, .inl dys)), (do3, .inl (cI, 8, .inl drf)), (do4, .inl (cI, 8, .inl dbo)), (do5, .inl (cI, 4, .inl dpr)), (do6, .inl (cI, 4, .inl dbu)), (q0, .inr (9, [.int thr, .long as_, .ref q1, .int (nI ty), .int (nI nx), .int tk, .int pl, .int va, .int fa, .ref q2, .ref q3, .ref q4, .ref q5, .ref q6, .ref q7, .int mdw, .int (bb mww), .int (nI k), .int (nI n), .int (nI mdk), .int (nI mdn), .ref q8, .ref q9, .ref q10, .ref q11, .ref q12, .int fw, .ref q13, .int mbt, .int lo, .int en])), (q1, .inl (cI, 300, .inl tx)), (q2, .inl (cI, 8, .inl mpr)), (q3, .inl (cI, 8, .inl mbu)), (q4, .inl (cI, 16, .inl mxs)), (q5, .inl (cI, 16, .inl mys)), (q6, .inl (cI, 16, .inl mbo)), (q7, .inl (cI, 8, .inl mdr)), (q8, .inl (cI, 27, .inl s_)), (q9, .inl (cI, 54, .inl kp)), (q10, .inl (cZ, 2, .inl ik)), (q11, .inl (cI, 8, .inl tr)), (q12, .inl (cI, 8, .inl be)), (q13, .inl (cI, 8, .inl si))] H → va_D A [(u0, .inr (8, [.ref t0, .ref k0, .ref e0, .ref f0, .ref s0, .ref r0, .ref g0, .ref o0, .ref do0, .int dr])), (t0, .inr (5, [.ref t1, .int (nI ty)])), (t1, .inl (cI, 300, .inl (rI bt))), (k0, .inr (6, [.ref k1, .ref k2, .ref k3, .int (nI tz), .int (nI ta), .int (nI ts_), .int (nI tn_), .int (nI tv_)])), (k1, .inl (cI, 301, .inl (rI tkk))), (k2, .inl (cI, 301, .inl (rI tkv))), (k3, .inl (cI, 301, .inl (rI tks))), (e0, .inr (3, [.ref e1, .ref e2, .ref e3, .ref e4, .ref e5, .ref e6, .int (nI ns), .int (nI ks), .int (nI LL)])), (e1, .inl (cI, 8, .inl (rI NE))), (e2, .inl (cI, 8, .inl (rI AL))), (e3, .inl (cI, 8, .inl (rI PI))), (e4, .inl (cI, 8, .inl (rI BE))), (e5, .inl (cI, 32, .inl (rI CO))), (e6, .inl (cI, 9, .inl (rI AH))), (f0, .inr (0, [.ref f1, .int fbt, .int flc])), (f1, .inl (cI, 8, .inl fsi)), (s0, .inr (4, [.ref s1, .ref s2, .int (nI sn)])), (s1, .inl (cI, 8, .inl sh)), (s2, .inl (cI, 8, .inl sm)), (r0, .inr (2, [.long as_])), (g0, .inl (cO, 2, .inr (.inr (.inr (.inr (fun j => if j = 0 then some a0 else some b0)))))), (a0, .inr (1, [.ref a1, .ref a2, .int (nI aw), .int al, .int (bb ak)])), (a1, .inl (cI, 8, .inl ar)), (a2, .inr (4, [.ref a3, .ref a4, .int (nI an)])), (a3, .inl (cI, 8, .inl ah)), (a4, .inl (cI, 8, .inl am)), (b0, .inr (1, [.ref b1, .ref b2, .int (nI bw), .int bl, .int (bb bk)])), (b1, .inl (cI, 8, .inl br)), (b2, .inr (4, [.ref b3, .ref b4, .int (nI bn)])), (b3, .inl (cI, 8, .inl bh)), (b4, .inl (cI, 8, .inl bm)), (o0, .inr (7, [.ref o1, .ref o2, .ref o3, .ref o4, .ref o5, .ref o6, .int (nI n), .int (nI k), .int (nI wn), .int (bb wt)])), (o1, .inl (cI, 8, .inl xs)), (o2, .inl (cI, 8, .inl ys)), (o3, .inl (cI, 8, .inl rf)), (o4, .inl (cI, 8, .inl bo)), (o5, .inl (cI, 4, .inl pr)), (o6, .inl (cI, 4, .inl bu)), (do0, .inr (7, [.ref do1, .ref do2, .ref do3, .ref do4, .ref do5, .ref do6, .int (nI dn_), .int (nI dk_), .int dwd, .int (bb dwt)])), (do1, .inl (cI, 8, .inl dxs)), (do2, .inl (cI, 8, .inl dys)), (do3, .inl (cI, 8, .inl drf)), (do4, .inl (cI, 8, .inl dbo)), (do5, .inl (cI, 4, .inl dpr)), (do6, .inl (cI, 4, .inl dbu)), (q0, .inr (9, [.int thr, .long as_, .ref q1, .int (nI ty), .int (nI nx), .int tk, .int pl, .int va, .int fa, .ref q2, .ref q3, .ref q4, .ref q5, .ref q6, .ref q7, .int mdw, .int (bb mww), .int (nI k), .int (nI n), .int (nI mdk), .int (nI mdn), .ref q8, .ref q9, .ref q10, .ref q11, .ref q12, .int fw, .ref q13, .int mbt, .int lo, .int en])), (q1, .inl (cI, 300, .inl tx)), (q2, .inl (cI, 8, .inl mpr)), (q3, .inl (cI, 8, .inl mbu)), (q4, .inl (cI, 16, .inl mxs)), (q5, .inl (cI, 16, .inl mys)), (q6, .inl (cI, 16, .inl mbo)), (q7, .inl (cI, 8, .inl mdr)), (q8, .inl (cI, 27, .inl s_)), (q9, .inl (cI, 54, .inl kp)), (q10, .inl (cZ, 2, .inl ik)), (q11, .inl (cI, 8, .inl tr)), (q12, .inl (cI, 8, .inl be)), (q13, .inl (cI, 8, .inl si))] → va_S A s.heap H locs → ∀ ls : Array Slot, lv_has ls 4 [(0, .ref b), (1, .ref u0), (2, .ref q0), (3, .int (nI i))] → W p l e room_1 s m #[Value.ref b] below meth c H locs 59 2012 Q (F0 m 18 ls [])
