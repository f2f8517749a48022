/-! the whole reading, on both sides -/
def dZ : DT := ((0, 0, 0, false), (z0, z0, fun _ => (-9), fun _ => (-9)), (z0, z0))
theorem dZ_ok : dOK dZ := ⟨by decide, by decide, by decide, fun h q => absurd q (Nat.not_lt_zero _), fun g h q => absurd q (Nat.not_lt_zero _), fun h q => absurd q (Nat.not_lt_zero _), fun s q => absurd q (Nat.not_lt_zero _)⟩
theorem dZ_R {xs ys rf bo pr bu : Nat → Int32} : tR dZ 0 0 0 false xs ys rf bo pr bu := ⟨rfl, fun h q => absurd q (Nat.not_lt_zero _), fun s q => absurd q (Nat.not_lt_zero _)⟩
def PAF (F : Nat → Nat) (ty : Nat) : Bool × DT × Nat := pAll (kdF F ty) (vlF F ty) 302 dZ 0 0
theorem PAF_ok {F : Nat → Nat} {ty : Nat} : dOK (PAF F ty).2.1 := pAll_ok _ _ _ _ dZ_ok
theorem pAll_le {kd vl : Nat → Nat} : ∀ (f : Nat) (d : DT) (j it : Nat), (pAll kd vl f d j it).1 = true → (pAll kd vl f d j it).2.2 ≤ it + f
  | 0, _, _, _, _ => Nat.le_refl _
  | f + 1, d, j, it, h => by
    rw [pAll] at h ⊢
    split
    · exact Nat.le_add_right _ _
    · rename_i hk
      rw [if_neg hk] at h
      split
      · rename_i hi
        rw [if_pos hi] at h
        have := pAll_le f _ _ _ h
        omega
      · rename_i hi
        rw [if_neg hi] at h
        cases h
section TOWN
variable {F : Nat → Nat} {ty : Nat}
theorem kd_13 (j : Nat) : kdF F ty j ≤ 13 := ckN_le
theorem vl_100 (j : Nat) : vlF F ty j ≤ 100 := by
  show cvN F ty (stP F ty j) ≤ 100
  unfold cvN
  split <;> omega
theorem tokC_of {tz : Nat} {ka kb kc : Nat → Nat} (hty : ty ≤ 300) (h : (tz ≤ 301 ∧ 1 ≤ tz) ∧ tokR F ty tz ka kb kc ∧ (∀ j, j + 1 < tz → ¬ ckN F ty (stP F ty j) = 0) ∧ (ckN F ty (stP F ty (tz - 1)) = 0 ∨ tz = 301)) : tokC (kdF F ty) (vlF F ty) (stP F ty) tz ka kb kc := by
  refine ⟨h.2.1, h.1.1, fun j hj hk => ?_, kd_13, vl_100⟩
  rcases Nat.lt_or_ge (j + 1) tz with q | q
  · exact q
  · have e : j = tz - 1 := by omega
    subst e
    exact absurd (st_end hty h.2.2.1 h.1.2 h.2.2.2) hk
theorem pa_ge {r : Int32} (hty : ty ≤ 300) (e : r = (if (PAF F ty).1 = true then nI (PAF F ty).2.2 else (-10) - nI (stP F ty (PAF F ty).2.2))) (c : 0 ≤ r) : (PAF F ty).1 = true ∧ r = nI (PAF F ty).2.2 := by
  cases h : (PAF F ty).1 with
  | true => rw [h] at e; exact ⟨rfl, e⟩
  | false =>
    rw [h] at e
    exfalso
    have e' : r = (-10) - nI (stP F ty (PAF F ty).2.2) := e
    have hs := stP_le (F := F) (ty := ty) (PAF F ty).2.2
    have key : ∀ x : Fin 301, ¬ (0 : Int32) ≤ (-10) - nI x.val := by decide +kernel
    exact key ⟨_, by omega⟩ (e' ▸ c)
theorem pa_lt {r : Int32} (e : r = (if (PAF F ty).1 = true then nI (PAF F ty).2.2 else (-10) - nI (stP F ty (PAF F ty).2.2))) (c : ¬ 0 ≤ r) : (PAF F ty).1 = false := by
  cases h : (PAF F ty).1 with
  | false => rfl
  | true =>
    exfalso
    have hl := pAll_le 302 dZ 0 0 (kd := kdF F ty) (vl := vlF F ty) h
    rw [h] at e
    have e' : r = nI (PAF F ty).2.2 := e
    have hl' : (PAF F ty).2.2 ≤ 302 := by have : (PAF F ty).2.2 ≤ 0 + 302 := hl; omega
    exact c (by rw [e']; exact nI_pos' (by omega))
/-- the first END -/
theorem end_at (hty : ty ≤ 300) : ∃ E0, E0 ≤ 300 ∧ kdF F ty E0 = 0 ∧ ∀ i, i < E0 → ¬ kdF F ty i = 0 := by
  have h : ∃ k, k ≤ 300 ∧ kdF F ty k = 0 := by
    apply Classical.byContradiction
    intro q
    have h2 : ∀ i, i < 301 → ¬ ckN F ty (stP F ty i) = 0 := fun i hi z => q ⟨i, by omega, z⟩
    have h3 := stP_ge 301 h2
    have h4 := stP_le (F := F) (ty := ty) 301
    omega
  obtain ⟨k, ⟨h1, h2⟩, h3⟩ := pk_least (fun k => k ≤ 300 ∧ kdF F ty k = 0) h
  exact ⟨k, h1, h2, fun i hi q => h3 i hi ⟨by omega, q⟩⟩
theorem kd_0 {j : Nat} : tkK F ty (stP F ty j) = 0 ↔ kdF F ty j = 0 := by
  show _ ↔ ckN F ty (stP F ty j) = 0
  rcases tk_case (F := F) (ty := ty) (s := stP F ty j) with ⟨q1, q2⟩ | ⟨q1, q2⟩ | ⟨q1, q2⟩ | ⟨q1, q2, q3, q4⟩ | ⟨c, hc, q1, q2, q3⟩ <;> omega
theorem kd_2 {j : Nat} : tkK F ty (stP F ty j) = 3 ↔ kdF F ty j = 2 := by
  show _ ↔ ckN F ty (stP F ty j) = 2
  rcases tk_case (F := F) (ty := ty) (s := stP F ty j) with ⟨q1, q2⟩ | ⟨q1, q2⟩ | ⟨q1, q2⟩ | ⟨q1, q2, q3, q4⟩ | ⟨c, hc, q1, q2, q3⟩ <;> omega
theorem kd_w {j : Nat} {va : Int32} (hva : vaOK F ty (stP F ty j) va) (h : tkK F ty (stP F ty j) = 1) : ∃ c, c < 10 ∧ kdF F ty j = c + 4 ∧ va = nI c := by
  show ∃ c, c < 10 ∧ ckN F ty (stP F ty j) = c + 4 ∧ va = nI c
  rcases tk_case (F := F) (ty := ty) (s := stP F ty j) with ⟨q1, q2⟩ | ⟨q1, q2⟩ | ⟨q1, q2⟩ | ⟨q1, q2, q3, q4⟩ | ⟨c, hc, q1, q2, q3⟩
  · omega
  · omega
  · omega
  · omega
  · exact ⟨c, hc, q1, (hva.1 q2).trans q3⟩
theorem kd_nw {j : Nat} (h : ¬ tkK F ty (stP F ty j) = 1) : kdF F ty j < 4 := by
  show ckN F ty (stP F ty j) < 4
  rcases tk_case (F := F) (ty := ty) (s := stP F ty j) with ⟨q1, q2⟩ | ⟨q1, q2⟩ | ⟨q1, q2⟩ | ⟨q1, q2, q3, q4⟩ | ⟨c, hc, q1, q2, q3⟩ <;> omega
end TOWN
section MAY
variable {F : Nat → Nat} {ty j : Nat} {va : Int32} {d : DT} {dk dn : Nat} {dw : Int32} {ww mb i1 : Bool} {xs ys bo dr pr bu : Nat → Int32}
theorem may_S (hva : vaOK F ty (stP F ty j) va) (hR : mR d dk dn dw ww xs ys bo dr pr bu) (c : va = 0) (hb : mb = decide (dk < 4)) : tkK F ty (stP F ty j) = 1 → mb = heaB (kdF F ty) d j := by
  intro h
  obtain ⟨k, hk, e1, e2⟩ := kd_w hva h
  have e3 : k = 0 := (nI_eq (by omega) (by omega)).1 (e2.symm.trans (c.trans nI_0.symm))
  subst e3
  unfold heaB
  rw [if_pos e1, (mR_eq hR).2.1, hb]
theorem may_H (hva : vaOK F ty (stP F ty j) va) (hR : mR d dk dn dw ww xs ys bo dr pr bu) (c : va = 1) (hb : mb = decide (dn < 8)) : tkK F ty (stP F ty j) = 1 → mb = heaB (kdF F ty) d j := by
  intro h
  obtain ⟨k, hk, e1, e2⟩ := kd_w hva h
  have e3 : k = 1 := (nI_eq (by omega) (by omega)).1 (e2.symm.trans c)
  subst e3
  unfold heaB
  rw [if_neg (by omega), if_pos e1, (mR_eq hR).1, hb]
theorem may_W (hva : vaOK F ty (stP F ty j) va) (hR : mR d dk dn dw ww xs ys bo dr pr bu) (c : va = 4) (hb : mb = !ww) : tkK F ty (stP F ty j) = 1 → mb = heaB (kdF F ty) d j := by
  intro h
  obtain ⟨k, hk, e1, e2⟩ := kd_w hva h
  have e3 : k = 4 := (nI_eq (by omega) (by omega)).1 (e2.symm.trans c)
  subst e3
  unfold heaB
  rw [if_neg (by omega), if_neg (by omega), if_pos e1, (mR_eq hR).2.2, hb]
theorem may_R (hva : vaOK F ty (stP F ty j) va) (c0 : ¬ va = 0) (c1 : ¬ va = 1) (c4 : ¬ va = 4) (hb : mb = decide (va < 4)) : tkK F ty (stP F ty j) = 1 → mb = heaB (kdF F ty) d j := by
  intro h
  obtain ⟨k, hk, e1, e2⟩ := kd_w hva h
  have n0 : ¬ k = 0 := fun z => c0 (by rw [e2, z]; rfl)
  have n1 : ¬ k = 1 := fun z => c1 (by rw [e2, z]; rfl)
  have n4 : ¬ k = 4 := fun z => c4 (by rw [e2, z]; rfl)
  unfold heaB
  rw [if_neg (by omega), if_neg (by omega), if_neg (by omega), hb, e2]
  refine decide_eq_decide.2 ?_
  rw [show (4 : Int32) = nI 4 from rfl, nI_ltI (by omega) (by omega)]
  omega
theorem tw_i1 (hmb : tkK F ty (stP F ty j) = 1 → mb = heaB (kdF F ty) d j) (hi : i1 = (decide (tkK F ty (stP F ty j) = 1) && mb)) : i1 = heaB (kdF F ty) d j := by
  by_cases h : tkK F ty (stP F ty j) = 1
  · rw [hi, decide_eq_true h, hmb h]; rfl
  · have := kd_nw h
    rw [hi, decide_eq_false h, hea0 (by omega) (by omega) (by omega) (by omega) (by omega)]; rfl
theorem hea_c {kd : Nat → Nat} (h : heaB kd d j = true) : 4 ≤ kd j ∧ kd j ≤ 8 := by
  unfold heaB at h
  split at h
  · omega
  · split at h
    · omega
    · split at h
      · omega
      · have := of_decide_eq_true h; omega
theorem tw_c1 (hva : vaOK F ty (stP F ty j) va) (hmb : tkK F ty (stP F ty j) = 1 → mb = heaB (kdF F ty) d j) (hi : i1 = (decide (tkK F ty (stP F ty j) = 1) && mb)) : ∃ c, (i1 = true → kdF F ty j = c + 4 ∧ c ≤ 4) ∧ (if (true && i1) = true then va else 0) = nI c := by
  have hh := tw_i1 hmb hi
  cases i1 with
  | false => exact ⟨0, (fun q => by cases q), rfl⟩
  | true =>
    have h1 := of_decide_eq_true (Bool.and_eq_true_iff.1 hi.symm).1
    obtain ⟨k, hk, e1, e2⟩ := kd_w hva h1
    have h2 := hea_c hh.symm
    exact ⟨k, fun _ => ⟨e1, by omega⟩, e2⟩
end MAY
/-- the reference's reading, between two items -/
def twI (kd vl : Nat → Nat) (E0 : Nat) (R : Bool × DT × Nat) (ok : Bool) (jj it : Nat) (d : DT) (dk dn : Nat) (dw : Int32) (ww : Bool) (xs ys bo dr pr bu : Nat → Int32) : Prop :=
  (ok = true → mR d dk dn dw ww xs ys bo dr pr bu ∧ dOK d ∧ jj ≤ E0 ∧ ∃ f, 301 < f + jj ∧ pAll kd vl f d jj it = R) ∧ (ok = false → R.1 = false ∧ R.2.2 = jj)
section TWI
variable {kd vl : Nat → Nat} {E0 : Nat} {R : Bool × DT × Nat} {ok okE is_ : Bool} {jj jE it dk dn fuel j2 : Nat} {d d2 : DT} {dw : Int32} {ww : Bool} {xs ys bo dr pr bu : Nat → Int32}
theorem okN_nz {j lo hi : Nat} (h : okN kd vl j lo hi = true) : ¬ kd j = 0 := by have := (okN_iff.1 h).1; omega
theorem nz4 {j i : Nat} (h0 : ¬ kd j = 0) (h1 : ¬ kd (j + 1) = 0) (h2 : ¬ kd (j + 2) = 0) (hi : j ≤ i) (h : i < j + 3) : ¬ kd i = 0 := by
  rcases (show i = j ∨ i = j + 1 ∨ i = j + 2 by omega) with e | e | e
  · rw [e]; exact h0
  · rw [e]; exact h1
  · rw [e]; exact h2
theorem bod_nz {j : Nat} (h : (bodI kd vl d j).1 = true) : ∀ i, j ≤ i → i < (bodI kd vl d j).2.2 → ¬ kd i = 0 := by
  intro i hi hlt
  unfold bodI at h hlt
  by_cases hh : heaB kd d j = true
  · have h0 : ¬ kd j = 0 := by have := hea_c hh; omega
    rw [if_pos hh] at h hlt
    split at h
    · rename_i q; rw [if_pos q] at hlt
      unfold bodS at h hlt
      split at h
      · rename_i a1; rw [if_pos a1] at hlt
        split at h
        · rename_i a2; rw [if_pos a2] at hlt
          exact nz4 h0 (okN_nz a1) (okN_nz a2) hi hlt
        · cases h
      · cases h
    · rename_i q; rw [if_neg q] at hlt
      split at h
      · rename_i q; rw [if_pos q] at hlt
        unfold bodH at h hlt
        split at h
        · rename_i a1; rw [if_pos a1] at hlt
          split at h
          · rename_i a2; rw [if_pos a2] at hlt
            exact nz4 h0 (okN_nz a1) (okN_nz a2.1) hi hlt
          · cases h
        · cases h
      · rename_i q; rw [if_neg q] at hlt
        split at h
        · rename_i q; rw [if_pos q] at hlt
          unfold bodR at h hlt
          split at h
          · rename_i a1; rw [if_pos a1] at hlt
            split at h
            · rename_i a2; rw [if_pos a2] at hlt
              exact nz4 h0 (okN_nz a1) (okN_nz a2.1) hi hlt
            · cases h
          · cases h
        · rename_i q; rw [if_neg q] at hlt
          split at h
          · rename_i q; rw [if_pos q] at hlt
            unfold bodB at h hlt
            split at h
            · rename_i a1; rw [if_pos a1] at hlt
              split at h
              · rename_i a2; rw [if_pos a2] at hlt
                exact nz4 h0 (okN_nz a1.1) (okN_nz a2) hi hlt
              · cases h
            · cases h
          · rename_i q; rw [if_neg q] at hlt
            unfold bodW at h hlt
            split at h
            · rename_i a1; rw [if_pos a1] at hlt
              have hlt' : i < j + 2 := hlt
              rcases (show i = j ∨ i = j + 1 by omega) with e | e
              · rw [e]; exact h0
              · rw [e]; omega
            · cases h
  · rw [if_neg hh] at h; cases h
theorem tw_meas (hm : (if true = true then 302 - jj else 0) < fuel + 1) (hj : jj ≤ 300) (hq : ok = true → jj + 1 ≤ j2) : (if ok = true then 302 - j2 else 0) < fuel := by
  have hm' : 302 - jj < fuel + 1 := hm
  by_cases h : ok = true
  · have := hq h; rw [if_pos h]; omega
  · rw [if_neg h]; omega
theorem tw_ge (h : mdQ (bodI kd vl d jj) okE jE dk dn dw ww xs ys bo dr pr bu) : (okE && is_) = true → jj + 1 ≤ jN okE is_ jE := by
  intro q
  have h2 := bod_ge (kd := kd) (vl := vl) (d := d) (j := jj)
  rw [← h.2.1] at h2
  unfold jN
  rw [if_pos q]; omega
theorem tw_A (hf : ∃ f, 301 < f + jj ∧ pAll kd vl f d jj it = R) (hj : jj ≤ 300) (hk : ¬ kd jj = 0) (hh : heaB kd d jj = false) : twI kd vl E0 R (false && is_) (jN false is_ jj) (it + 1) d2 dk dn dw ww xs ys bo dr pr bu := by
  have e := pall_bad hf hj hk (by rw [itm_h0 hh])
  exact ⟨(fun q => by cases q), fun _ => by rw [e, itm_h0 hh]; exact ⟨rfl, rfl⟩⟩
theorem tw_Bt (hf : ∃ f, 301 < f + jj ∧ pAll kd vl f d jj it = R) (hE : E0 ≤ 300) (hjE : jj ≤ E0) (hEz : kd E0 = 0) (hd : dOK d) (hk : ¬ kd jj = 0) (h : mdQ (bodI kd vl d jj) okE jE dk dn dw ww xs ys bo dr pr bu) (hs : kd jE = 2) : twI kd vl E0 R (okE && true) (jN okE true jE) (it + 1) (itmI kd vl d jj).2.1 dk dn dw ww xs ys bo dr pr bu := by
  obtain ⟨e1, e2, h3⟩ := h
  cases okE with
  | false =>
    have hi : itmI kd vl d jj = bodI kd vl d jj := sto_f e1.symm
    have e := pall_bad hf (by omega) hk (by rw [hi]; exact e1.symm)
    exact ⟨(fun q => by cases q), fun _ => by rw [e, hi]; exact ⟨rfl, e2.symm⟩⟩
  | true =>
    have hi : itmI kd vl d jj = bodI kd vl d jj := sto_y e1.symm (by rw [← e2]; exact hs)
    have hlt : jE < E0 := by
      rcases Nat.lt_or_ge jE E0 with z | z
      · exact z
      · exfalso
        rcases Nat.lt_or_ge E0 jE with z2 | z2
        · exact bod_nz e1.symm E0 hjE (by omega) hEz
        · have : jE = E0 := by omega
          rw [this, hEz] at hs
          cases hs
    have hg := pall_go (q := jE) hf (by omega) hk (by rw [hi]; exact e1.symm) (by rw [hi]; exact e2)
    refine ⟨fun _ => ⟨by rw [hi]; exact h3 e1.symm, itm_ok hd, hlt, hg⟩, fun q => by cases q⟩
theorem tw_Bf (hf : ∃ f, 301 < f + jj ∧ pAll kd vl f d jj it = R) (hj : jj ≤ 300) (hk : ¬ kd jj = 0) (h : mdQ (bodI kd vl d jj) okE jE dk dn dw ww xs ys bo dr pr bu) (hs : ¬ kd jE = 2) : twI kd vl E0 R (okE && false) (jN okE false jE) (it + 1) d2 dk dn dw ww xs ys bo dr pr bu := by
  obtain ⟨e1, e2, h3⟩ := h
  have key : (itmI kd vl d jj).1 = false ∧ (itmI kd vl d jj).2.2 = jE := by
    cases okE with
    | false =>
      have hi : itmI kd vl d jj = bodI kd vl d jj := sto_f e1.symm
      rw [hi]; exact ⟨e1.symm, e2.symm⟩
    | true =>
      have hi : itmI kd vl d jj = (false, d, (bodI kd vl d jj).2.2) := sto_n e1.symm (by rw [← e2]; exact hs)
      rw [hi]; exact ⟨rfl, e2.symm⟩
  have e := pall_bad hf hj hk key.1
  have ej : jN okE false jE = jE := by cases okE <;> rfl
  refine ⟨fun q => absurd q (by cases okE <;> decide), fun _ => by rw [e, ej]; exact ⟨rfl, key.2⟩⟩
end TWI
/-! the draft becomes the town -/
def cpR (f g : Nat → Int32) (c i : Nat) : Prop := (∀ j, j < i → g j = f (c + j)) ∧ ∀ j, i ≤ j → g j = f j
theorem cpR_0 {f : Nat → Int32} {c : Nat} : cpR f f c 0 := ⟨fun _ q => absurd q (Nat.not_lt_zero _), fun _ _ => rfl⟩
theorem cpR_up {f g : Nat → Int32} {c i : Nat} (h : cpR f g c i) : cpR f (upd g i (g (c + i))) c (i + 1) := by
  refine ⟨fun j hj => ?_, fun j hj => ?_⟩
  · by_cases e : j = i
    · subst e; rw [pk_us]; exact h.2 (c + j) (by omega)
    · rw [pk_un e]; exact h.1 j (by omega)
  · rw [pk_un (show j ≠ i by omega)]; exact h.2 j (by omega)
def sR (dr s_ : Nat → Int32) (n : Nat) (g : Nat → Int32) (i : Nat) : Prop := (∀ j, j < i → g j = (if j < n then dr j else (-9))) ∧ ∀ j, i ≤ j → g j = s_ j
theorem sR_0 {dr s_ : Nat → Int32} {n : Nat} : sR dr s_ n s_ 0 := ⟨fun _ q => absurd q (Nat.not_lt_zero _), fun _ _ => rfl⟩
theorem sR_up {dr s_ g : Nat → Int32} {n i : Nat} {v : Int32} (h : sR dr s_ n g i) (e : v = (if i < n then dr i else (-9))) : sR dr s_ n (upd g i v) (i + 1) := by
  refine ⟨fun j hj => ?_, fun j hj => ?_⟩
  · by_cases q : j = i
    · subst q; rw [pk_us]; exact e
    · rw [pk_un q]; exact h.1 j (by omega)
  · rw [pk_un (show j ≠ i by omega)]; exact h.2 j (by omega)
/-- what the reference's cells hold behind town() -/
def mTP (R : Bool × DT × Nat) (n k ty : Nat) (xs ys bo pr bu s_ ik : Nat → Int32) (n2 k2 ty2 : Nat) (xs2 ys2 bo2 pr2 bu2 s2 ik2 : Nat → Int32) : Prop :=
  (R.1 = true ∧ tR R.2.1 n2 k2 R.2.1.1.2.2.1 R.2.1.1.2.2.2 xs2 ys2 s2 bo2 pr2 bu2 ∧ s2 8 = nI R.2.1.1.2.2.1 ∧ s2 9 = s_ 9 ∧ s2 10 = 0 ∧ (∀ j, 11 ≤ j → s2 j = s_ j) ∧ ty2 = 0 ∧ ik2 0 = 0 ∧ ik2 1 = 0) ∨
  (R.1 = false ∧ n2 = n ∧ k2 = k ∧ ty2 = ty ∧ kpT xs ys bo pr bu xs2 ys2 bo2 pr2 bu2 ∧ s2 = s_ ∧ ik2 = ik)
theorem mTP_t {R : Bool × DT × Nat} {d : DT} {it n k ty dk dn : Nat} {dw : Int32} {ww : Bool} {xs ys bo pr bu s_ ik x1 y1 b1 dr p1 u1 xa ya ba pa ua sa : Nat → Int32} (hR : R = (true, d, it)) (hd : dOK d) (h : mR d dk dn dw ww x1 y1 b1 dr p1 u1) (hp : cpR p1 pa 4 4) (hu : cpR u1 ua 4 4) (hx : cpR x1 xa 8 8) (hy : cpR y1 ya 8 8) (hb : cpR b1 ba 8 8) (hs : sR dr s_ dn sa 8) :
    mTP R n k ty xs ys bo pr bu s_ ik dn dk 0 xa ya ba pa ua (upd (upd sa 8 dw) 10 0) (upd (upd ik 0 0) 1 0) := by
  subst hR
  obtain ⟨hn, hk⟩ := mR_le h hd
  obtain ⟨⟨h1, h2, h3⟩, hw⟩ := h
  refine Or.inl ⟨rfl, ⟨?_, fun g hg => ?_, fun s hs => ?_⟩, ?_, ?_, pk_us, fun j hj => ?_, rfl, ?_, pk_us⟩
  · show d.1 = (dn, dk, d.1.2.2.1, d.1.2.2.2)
    rw [h1]
  · obtain ⟨q1, q2, q3, q4⟩ := h2 g hg
    refine ⟨(hx.1 g (by omega)).trans q1, (hy.1 g (by omega)).trans q2, ?_, (hb.1 g (by omega)).trans q4⟩
    rw [pk_un (show g ≠ 10 by omega), pk_un (show g ≠ 8 by omega), hs.1 g (by omega), if_pos hg]
    exact q3
  · obtain ⟨q1, q2⟩ := h3 s hs
    exact ⟨(hp.1 s (by omega)).trans q1, (hu.1 s (by omega)).trans q2⟩
  · rw [pk_un (show 8 ≠ 10 by omega), pk_us]; exact hw
  · rw [pk_un (show 9 ≠ 10 by omega), pk_un (show 9 ≠ 8 by omega)]; exact hs.2 9 (by omega)
  · rw [pk_un (show j ≠ 10 by omega), pk_un (show j ≠ 8 by omega)]; exact hs.2 j (by omega)
  · rw [pk_un (show 0 ≠ 1 by omega), pk_us]
/-- what the class's cells hold behind town() -/
def cTP (R : Bool × DT × Nat) (o0 do0 ty sn : Nat) (ak bk : Bool) (x_ y_ ty2 sn2 : Nat) (ak2 bk2 : Bool) (n k wn : Nat) (wt : Bool) (xs ys rf bo pr bu : Nat → Int32) : Prop :=
  (R.1 = true ∧ x_ = do0 ∧ y_ = o0 ∧ ty2 = 0 ∧ sn2 = 0 ∧ ak2 = false ∧ bk2 = false ∧ tR R.2.1 n k wn wt xs ys rf bo pr bu) ∨ (R.1 = false ∧ x_ = o0 ∧ y_ = do0 ∧ ty2 = ty ∧ sn2 = sn ∧ ak2 = ak ∧ bk2 = bk)
