/-! the draft and its items: one reading for both sides, over kinds and values of the tokens by number -/
def kdF (F : Nat → Nat) (ty : Nat) : Nat → Nat := fun j => ckN F ty (stP F ty j)
def vlF (F : Nat → Nat) (ty : Nat) : Nat → Nat := fun j => cvN F ty (stP F ty j)
abbrev DT : Type := (Nat × Nat × Nat × Bool) × ((Nat → Nat) × (Nat → Nat) × (Nat → Int32) × (Nat → Int32)) × ((Nat → Nat) × (Nat → Nat))
section PARSE
variable (kd vl : Nat → Nat)
def okN (j lo hi : Nat) : Bool := decide (kd j = 3 ∧ lo ≤ vl j ∧ vl j < hi)
def hasAt (d : DT) (a b : Nat) : Bool := anyN (fun g => decide (d.2.1.1 g = a ∧ d.2.1.2.1 g = b)) d.1.1
def dSrt (d : DT) (p u : Nat) : DT := ((d.1.1, d.1.2.1 + 1, d.1.2.2), d.2.1, (updN d.2.2.1 d.1.2.1 p, updN d.2.2.2 d.1.2.1 u))
def dHou (d : DT) (a b : Nat) : DT := ((d.1.1 + 1, d.1.2), (updN d.2.1.1 d.1.1 a, updN d.2.1.2.1 d.1.1 b, upd d.2.1.2.2.1 d.1.1 (-9), upd d.2.1.2.2.2 d.1.1 (-9)), d.2.2)
def dRof (d : DT) (h s : Nat) : DT := (d.1, (d.2.1.1, d.2.1.2.1, upd d.2.1.2.2.1 h (nI s), d.2.1.2.2.2), d.2.2)
def dBnd (d : DT) (h s : Nat) : DT := (d.1, (d.2.1.1, d.2.1.2.1, upd d.2.1.2.2.1 h (nI s), upd d.2.1.2.2.2 h (nI s)), d.2.2)
def dWnd (d : DT) (w : Nat) : DT := ((d.1.1, d.1.2.1, w, true), d.2)
def bodS (d : DT) (j : Nat) : Bool × DT × Nat :=
  if okN kd vl (j + 1) 1 100 = true then (if okN kd vl (j + 2) 0 10 = true then (true, dSrt d (vl (j + 1)) (vl (j + 2)), j + 3) else (false, d, j + 2)) else (false, d, j + 1)
def bodH (d : DT) (j : Nat) : Bool × DT × Nat :=
  if okN kd vl (j + 1) 0 8 = true then (if okN kd vl (j + 2) 0 8 = true ∧ hasAt d (vl (j + 1)) (vl (j + 2)) = false then (true, dHou d (vl (j + 1)) (vl (j + 2)), j + 3) else (false, d, j + 2)) else (false, d, j + 1)
def bodR (d : DT) (j : Nat) : Bool × DT × Nat :=
  if okN kd vl (j + 1) 0 d.1.1 = true then (if okN kd vl (j + 2) 0 d.1.2.1 = true ∧ (d.2.1.2.2.2 (vl (j + 1)) = (-9) ∨ d.2.1.2.2.2 (vl (j + 1)) = nI (vl (j + 2))) then (true, dRof d (vl (j + 1)) (vl (j + 2)), j + 3) else (false, d, j + 2)) else (false, d, j + 1)
def bodB (d : DT) (j : Nat) : Bool × DT × Nat :=
  if okN kd vl (j + 1) 0 d.1.1 = true ∧ d.2.1.2.2.2 (vl (j + 1)) = (-9) then (if okN kd vl (j + 2) 0 d.1.2.1 = true then (true, dBnd d (vl (j + 1)) (vl (j + 2)), j + 3) else (false, d, j + 2)) else (false, d, j + 1)
def bodW (d : DT) (j : Nat) : Bool × DT × Nat :=
  if 9 ≤ kd (j + 1) ∧ kd (j + 1) ≤ 13 then (true, dWnd d (kd (j + 1) - 9), j + 2) else (false, d, j + 1)
def heaB (d : DT) (j : Nat) : Bool := if kd j = 4 then decide (d.1.2.1 < 4) else if kd j = 5 then decide (d.1.1 < 8) else if kd j = 8 then !d.1.2.2.2 else decide (kd j = 6 ∨ kd j = 7)
def bodI (d : DT) (j : Nat) : Bool × DT × Nat :=
  if heaB kd d j = true then (if kd j = 4 then bodS kd vl d j else if kd j = 5 then bodH kd vl d j else if kd j = 6 then bodR kd vl d j else if kd j = 7 then bodB kd vl d j else bodW kd d j) else (false, d, j)
def stoI (r : Bool × DT × Nat) (d : DT) : Bool × DT × Nat := if r.1 = true then (if kd r.2.2 = 2 then r else (false, d, r.2.2)) else r
def itmI (d : DT) (j : Nat) : Bool × DT × Nat := stoI kd (bodI kd vl d j) d
/-- all items: whether there is no fault, the town, how many items (or the faulty token's number) -/
def pAll : Nat → DT → Nat → Nat → Bool × DT × Nat
  | 0, d, _, it => (true, d, it)
  | f + 1, d, j, it => if kd j = 0 then (true, d, it) else if (itmI kd vl d j).1 = true then pAll f (itmI kd vl d j).2.1 ((itmI kd vl d j).2.2 + 1) (it + 1) else (false, d, (itmI kd vl d j).2.2)
end PARSE
/-- cells that hold a draft -/
def tR (d : DT) (n k wn : Nat) (wt : Bool) (xs ys rf bo pr bu : Nat → Int32) : Prop :=
  d.1 = (n, k, wn, wt) ∧ (∀ h, h < n → xs h = nI (d.2.1.1 h) ∧ ys h = nI (d.2.1.2.1 h) ∧ rf h = d.2.1.2.2.1 h ∧ bo h = d.2.1.2.2.2 h) ∧ ∀ s, s < k → pr s = nI (d.2.2.1 s) ∧ bu s = nI (d.2.2.2 s)
def dOK (d : DT) : Prop :=
  d.1.1 ≤ 8 ∧ d.1.2.1 ≤ 4 ∧ d.1.2.2.1 ≤ 4 ∧ (∀ h, h < d.1.1 → d.2.1.1 h < 8 ∧ d.2.1.2.1 h < 8) ∧ (∀ g h, g < d.1.1 → h < d.1.1 → d.2.1.1 g = d.2.1.1 h → d.2.1.2.1 g = d.2.1.2.1 h → g = h) ∧ (∀ h, h < d.1.1 → (d.2.1.2.2.1 h = (-9) ∨ ∃ v, v < d.1.2.1 ∧ d.2.1.2.2.1 h = nI v) ∧ (d.2.1.2.2.2 h = (-9) ∨ ∃ v, v < d.1.2.1 ∧ d.2.1.2.2.2 h = nI v)) ∧ ∀ s, s < d.1.2.1 → (1 ≤ d.2.2.1 s ∧ d.2.2.1 s ≤ 99) ∧ d.2.2.2 s ≤ 9
section TR
variable {d : DT} {n k wn : Nat} {wt : Bool} {xs ys rf bo pr bu : Nat → Int32}
theorem tR_srt (h : tR d n k wn wt xs ys rf bo pr bu) (p u : Nat) : tR (dSrt d p u) n (k + 1) wn wt xs ys rf bo (upd pr k (nI p)) (upd bu k (nI u)) := by
  obtain ⟨⟨d1, d2, d3, d4⟩, dh, dp, du⟩ := d
  obtain ⟨h1, h2, h3⟩ := h
  obtain ⟨rfl, rfl, rfl, rfl⟩ : d1 = n ∧ d2 = k ∧ d3 = wn ∧ d4 = wt := by simpa using h1
  refine ⟨rfl, h2, fun s hs => ?_⟩
  show upd pr d2 (nI p) s = nI (updN dp d2 p s) ∧ upd bu d2 (nI u) s = nI (updN du d2 u s)
  by_cases e : s = d2
  · subst e; rw [pk_us, pk_us, updN_s, updN_s]; exact ⟨rfl, rfl⟩
  · rw [pk_un e, pk_un e, updN_n e, updN_n e]; exact h3 s (by omega)
theorem tR_hou (h : tR d n k wn wt xs ys rf bo pr bu) (a b : Nat) : tR (dHou d a b) (n + 1) k wn wt (upd xs n (nI a)) (upd ys n (nI b)) (upd rf n (-9)) (upd bo n (-9)) pr bu := by
  obtain ⟨⟨d1, d2, d3, d4⟩, ⟨dx, dy, dr, db⟩, dp, du⟩ := d
  obtain ⟨h1, h2, h3⟩ := h
  obtain ⟨rfl, rfl, rfl, rfl⟩ : d1 = n ∧ d2 = k ∧ d3 = wn ∧ d4 = wt := by simpa using h1
  refine ⟨rfl, fun g hg => ?_, h3⟩
  show upd xs d1 (nI a) g = nI (updN dx d1 a g) ∧ upd ys d1 (nI b) g = nI (updN dy d1 b g) ∧ upd rf d1 (-9) g = upd dr d1 (-9) g ∧ upd bo d1 (-9) g = upd db d1 (-9) g
  by_cases e : g = d1
  · subst e; rw [pk_us, pk_us, pk_us, pk_us, pk_us, pk_us, updN_s, updN_s]; exact ⟨rfl, rfl, rfl, rfl⟩
  · rw [pk_un e, pk_un e, pk_un e, pk_un e, pk_un e, pk_un e, updN_n e, updN_n e]; exact h2 g (by omega)
theorem tR_rof (h : tR d n k wn wt xs ys rf bo pr bu) (a s : Nat) : tR (dRof d a s) n k wn wt xs ys (upd rf a (nI s)) bo pr bu := by
  obtain ⟨⟨d1, d2, d3, d4⟩, ⟨dx, dy, dr, db⟩, dp, du⟩ := d
  obtain ⟨h1, h2, h3⟩ := h
  refine ⟨h1, fun g hg => ⟨(h2 g hg).1, (h2 g hg).2.1, ?_, (h2 g hg).2.2.2⟩, h3⟩
  show upd rf a (nI s) g = upd dr a (nI s) g
  by_cases e : g = a
  · subst e; rw [pk_us, pk_us]
  · rw [pk_un e, pk_un e]; exact (h2 g hg).2.2.1
theorem tR_bnd (h : tR d n k wn wt xs ys rf bo pr bu) (a s : Nat) : tR (dBnd d a s) n k wn wt xs ys (upd rf a (nI s)) (upd bo a (nI s)) pr bu := by
  obtain ⟨⟨d1, d2, d3, d4⟩, ⟨dx, dy, dr, db⟩, dp, du⟩ := d
  obtain ⟨h1, h2, h3⟩ := h
  refine ⟨h1, fun g hg => ⟨(h2 g hg).1, (h2 g hg).2.1, ?_, ?_⟩, h3⟩
  · show upd rf a (nI s) g = upd dr a (nI s) g
    by_cases e : g = a
    · subst e; rw [pk_us, pk_us]
    · rw [pk_un e, pk_un e]; exact (h2 g hg).2.2.1
  · show upd bo a (nI s) g = upd db a (nI s) g
    by_cases e : g = a
    · subst e; rw [pk_us, pk_us]
    · rw [pk_un e, pk_un e]; exact (h2 g hg).2.2.2
theorem tR_wnd (h : tR d n k wn wt xs ys rf bo pr bu) (w : Nat) : tR (dWnd d w) n k w true xs ys rf bo pr bu := by
  obtain ⟨⟨d1, d2, d3, d4⟩, dh, dp⟩ := d
  obtain ⟨h1, h2, h3⟩ := h
  obtain ⟨rfl, rfl, rfl, rfl⟩ : d1 = n ∧ d2 = k ∧ d3 = wn ∧ d4 = wt := by simpa using h1
  exact ⟨rfl, h2, h3⟩
/-- whether a house stands there, by the cells -/
theorem hasAt_any (h : tR d n k wn wt xs ys rf bo pr bu) (hd : dOK d) {a b : Nat} (ha : a < 2147483648) (hb : b < 2147483648) : anyN (fun g => decide (xs g = nI a ∧ ys g = nI b)) n = hasAt d a b := by
  obtain ⟨⟨d1, d2, d3, d4⟩, ⟨dx, dy, dr, db⟩, dp, du⟩ := d
  obtain ⟨h1, h2, h3⟩ := h
  obtain ⟨rfl, rfl, rfl, rfl⟩ : d1 = n ∧ d2 = k ∧ d3 = wn ∧ d4 = wt := by simpa using h1
  refine anyN_congr (fun g hg => decide_eq_decide.2 ?_)
  obtain ⟨q1, q2⟩ := hd.2.2.2.1 g hg
  obtain ⟨e1, e2, -, -⟩ := h2 g hg
  have q1' : dx g < 8 := q1
  have q2' : dy g < 8 := q2
  have e1' : xs g = nI (dx g) := e1
  have e2' : ys g = nI (dy g) := e2
  rw [e1', e2', nI_eq (by omega) (by omega), nI_eq (by omega) (by omega)]
end TR
section DOK
variable {kd vl : Nat → Nat} {d : DT} {j : Nat}
theorem okN_iff {lo hi : Nat} : okN kd vl j lo hi = true ↔ kd j = 3 ∧ lo ≤ vl j ∧ vl j < hi := decide_eq_true_iff
theorem dOK_srt (h : dOK d) (hk : d.1.2.1 < 4) {p u : Nat} (hp : 1 ≤ p ∧ p ≤ 99) (hu : u ≤ 9) : dOK (dSrt d p u) := by
  obtain ⟨⟨d1, d2, d3, d4⟩, ⟨dx, dy, dr, db⟩, dp, du⟩ := d
  obtain ⟨h1, h2, h3, h4, h5, h6, h7⟩ := h
  refine ⟨h1, Nat.succ_le_of_lt hk, h3, h4, h5, fun g hg => ⟨(h6 g hg).1.imp id (fun ⟨v, q1, q2⟩ => ⟨v, Nat.lt_succ_of_lt q1, q2⟩), (h6 g hg).2.imp id (fun ⟨v, q1, q2⟩ => ⟨v, Nat.lt_succ_of_lt q1, q2⟩)⟩, fun s hs => ?_⟩
  have hs' : s < d2 + 1 := hs
  show (1 ≤ updN dp d2 p s ∧ updN dp d2 p s ≤ 99) ∧ updN du d2 u s ≤ 9
  by_cases e : s = d2
  · subst e; rw [updN_s, updN_s]; exact ⟨hp, hu⟩
  · rw [updN_n e, updN_n e]; exact h7 s (show s < d2 by omega)
theorem dOK_hou (h : dOK d) (hn : d.1.1 < 8) {a b : Nat} (ha : a < 8) (hb : b < 8) (hno : hasAt d a b = false) : dOK (dHou d a b) := by
  obtain ⟨⟨d1, d2, d3, d4⟩, ⟨dx, dy, dr, db⟩, dp, du⟩ := d
  obtain ⟨h1, h2, h3, h4, h5, h6, h7⟩ := h
  have hn' : d1 < 8 := hn
  have hno' : ∀ g, g < d1 → ¬ (dx g = a ∧ dy g = b) := fun g hg q => by
    have z : hasAt ((d1, d2, d3, d4), (dx, dy, dr, db), dp, du) a b = true := (anyN_iff _ _).2 ⟨g, hg, decide_eq_true q⟩
    rw [hno] at z; cases z
  refine ⟨Nat.succ_le_of_lt hn, h2, h3, fun g hg => ?_, fun g g2 hg hg2 e1 e2 => ?_, fun g hg => ?_, h7⟩
  · have hg' : g < d1 + 1 := hg
    show updN dx d1 a g < 8 ∧ updN dy d1 b g < 8
    by_cases e : g = d1
    · subst e; rw [updN_s, updN_s]; exact ⟨ha, hb⟩
    · rw [updN_n e, updN_n e]; exact h4 g (show g < d1 by omega)
  · have hg' : g < d1 + 1 := hg
    have hg2' : g2 < d1 + 1 := hg2
    have e1' : updN dx d1 a g = updN dx d1 a g2 := e1
    have e2' : updN dy d1 b g = updN dy d1 b g2 := e2
    by_cases e : g = d1
    · by_cases f : g2 = d1
      · omega
      · rw [e, updN_s, updN_n f] at e1' e2'
        exact absurd ⟨e1'.symm, e2'.symm⟩ (hno' g2 (by omega))
    · by_cases f : g2 = d1
      · rw [f, updN_s, updN_n e] at e1' e2'
        exact absurd ⟨e1', e2'⟩ (hno' g (by omega))
      · rw [updN_n e, updN_n f] at e1' e2'
        exact h5 g g2 (show g < d1 by omega) (show g2 < d1 by omega) e1' e2'
  · have hg' : g < d1 + 1 := hg
    show (upd dr d1 (-9) g = (-9) ∨ ∃ v, v < d2 ∧ upd dr d1 (-9) g = nI v) ∧ (upd db d1 (-9) g = (-9) ∨ ∃ v, v < d2 ∧ upd db d1 (-9) g = nI v)
    by_cases e : g = d1
    · subst e; rw [pk_us, pk_us]; exact ⟨Or.inl rfl, Or.inl rfl⟩
    · rw [pk_un e, pk_un e]; exact h6 g (show g < d1 by omega)
theorem dOK_rof (h : dOK d) {a s : Nat} (hs : s < d.1.2.1) : dOK (dRof d a s) := by
  obtain ⟨⟨d1, d2, d3, d4⟩, ⟨dx, dy, dr, db⟩, dp, du⟩ := d
  obtain ⟨h1, h2, h3, h4, h5, h6, h7⟩ := h
  refine ⟨h1, h2, h3, h4, h5, fun g hg => ⟨?_, (h6 g hg).2⟩, h7⟩
  show upd dr a (nI s) g = (-9) ∨ ∃ v, v < d2 ∧ upd dr a (nI s) g = nI v
  by_cases e : g = a
  · subst e; rw [pk_us]; exact Or.inr ⟨s, hs, rfl⟩
  · rw [pk_un e]; exact (h6 g hg).1
theorem dOK_bnd (h : dOK d) {a s : Nat} (hs : s < d.1.2.1) : dOK (dBnd d a s) := by
  obtain ⟨⟨d1, d2, d3, d4⟩, ⟨dx, dy, dr, db⟩, dp, du⟩ := d
  obtain ⟨h1, h2, h3, h4, h5, h6, h7⟩ := h
  refine ⟨h1, h2, h3, h4, h5, fun g hg => ⟨?_, ?_⟩, h7⟩
  · show upd dr a (nI s) g = (-9) ∨ ∃ v, v < d2 ∧ upd dr a (nI s) g = nI v
    by_cases e : g = a
    · subst e; rw [pk_us]; exact Or.inr ⟨s, hs, rfl⟩
    · rw [pk_un e]; exact (h6 g hg).1
  · show upd db a (nI s) g = (-9) ∨ ∃ v, v < d2 ∧ upd db a (nI s) g = nI v
    by_cases e : g = a
    · subst e; rw [pk_us]; exact Or.inr ⟨s, hs, rfl⟩
    · rw [pk_un e]; exact (h6 g hg).2
theorem dOK_wnd (h : dOK d) {w : Nat} (hw : w ≤ 4) : dOK (dWnd d w) := ⟨h.1, h.2.1, hw, h.2.2.2.1, h.2.2.2.2.1, h.2.2.2.2.2.1, h.2.2.2.2.2.2⟩
theorem bod_ok (h : dOK d) : dOK (bodI kd vl d j).2.1 := by
  unfold bodI
  split
  · rename_i hh
    split
    · rename_i h4
      unfold heaB at hh
      rw [if_pos h4] at hh
      unfold bodS
      split
      · rename_i a1
        split
        · rename_i a2
          have b1 := okN_iff.1 a1
          have b2 := okN_iff.1 a2
          exact dOK_srt h (of_decide_eq_true hh) ⟨b1.2.1, by omega⟩ (by omega)
        · exact h
      · exact h
    · rename_i h4
      split
      · rename_i h5
        unfold heaB at hh
        rw [if_neg h4, if_pos h5] at hh
        unfold bodH
        split
        · rename_i a1
          split
          · rename_i a2
            exact dOK_hou h (of_decide_eq_true hh) (okN_iff.1 a1).2.2 (okN_iff.1 a2.1).2.2 a2.2
          · exact h
        · exact h
      · split
        · unfold bodR
          split
          · split
            · rename_i a2
              exact dOK_rof h (okN_iff.1 a2.1).2.2
            · exact h
          · exact h
        · split
          · unfold bodB
            split
            · split
              · rename_i a2
                exact dOK_bnd h (okN_iff.1 a2).2.2
              · exact h
            · exact h
          · unfold bodW
            split
            · rename_i a1
              exact dOK_wnd h (by omega)
            · exact h
  · exact h
theorem itm_ok (h : dOK d) : dOK (itmI kd vl d j).2.1 := by
  have hb := bod_ok (kd := kd) (vl := vl) (j := j) h
  unfold itmI stoI
  split
  · split
    · exact hb
    · exact h
  · exact hb
theorem pAll_ok : ∀ (f : Nat) (d : DT) (j it : Nat), dOK d → dOK (pAll kd vl f d j it).2.1
  | 0, _, _, _, h => h
  | f + 1, d, j, it, h => by
    rw [pAll]
    split
    · exact h
    · split
      · exact pAll_ok f _ _ _ (itm_ok h)
      · exact h
end DOK
