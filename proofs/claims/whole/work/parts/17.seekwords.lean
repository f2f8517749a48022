/-! the search, house by house -/
section SEEK
variable {ns ks q h : Nat} {Aw Lw : Nat → Nat → Bool} {cf : Nat → Nat → Nat} {r bz : Nat → Nat} {LL : Nat}
theorem lawB_1 {v : Nat} : lawB Lw (updN r h v) (h + 1) = (lawB Lw r h && !anyN (fun g => Lw h g && decide (v = r g)) h) := by
  rw [lawB, lawB_congr (r := updN r h v) (r2 := r) (fun j hj => updN_n (by omega))]
  congr 2
  refine anyN_congr (fun g hg => ?_)
  rw [updN_s, updN_n (by omega)]
theorem seek_base {spt : Nat} (hq : ns - h = q) (hh : h = ns) (hlaw : lawB Lw r h = true) (hs : spt = cstN cf r h) (hlt : spt < LL) : (spt, r) = enumF ns ks Aw (stK Lw cf ns) q r (LL, bz) := by
  subst hh
  have hq0 : q = 0 := by omega
  subst hq0
  show _ = stK Lw cf h r (LL, bz)
  unfold stK
  rw [if_pos ⟨hlaw, by rw [← hs]; exact hlt⟩, hs]
abbrev skF (ns ks : Nat) (Aw Lw : Nat → Nat → Bool) (cf : Nat → Nat → Nat) (q h : Nat) (r : Nat → Nat) : Nat → (Nat × (Nat → Nat)) → (Nat × (Nat → Nat)) := fun v b => if Aw h v = true then enumF ns ks Aw (stK Lw cf ns) (q - 1) (updN r h v) b else b
theorem fold_y {v LLa LL2 : Nat} {bza bz2 : Nat → Nat} (hf : (LLa, bza) = forS (skF ns ks Aw Lw cf q h r) v (LL, bz)) (hA : Aw h v = true) (hz : (LL2, bz2) = enumF ns ks Aw (stK Lw cf ns) (q - 1) (updN r h v) (LLa, bza)) : (LL2, bz2) = forS (skF ns ks Aw Lw cf q h r) (v + 1) (LL, bz) := by
  rw [forS, ← hf, hz]
  exact (if_pos hA).symm
theorem fold_id {v LLa : Nat} {bza : Nat → Nat} (hf : (LLa, bza) = forS (skF ns ks Aw Lw cf q h r) v (LL, bz)) (hz : Aw h v = true → enumF ns ks Aw (stK Lw cf ns) (q - 1) (updN r h v) (LLa, bza) = (LLa, bza)) : (LLa, bza) = forS (skF ns ks Aw Lw cf q h r) (v + 1) (LL, bz) := by
  rw [forS, ← hf]
  by_cases hA : Aw h v = true
  · exact ((if_pos hA).trans (hz hA)).symm
  · exact (if_neg hA).symm
theorem sk_bit {a ne v : Nat} {PI : Nat → Nat} (hv : v < 4) (hA : a.testBit v = Aw h v) (hN : ∀ g, g < h → ne.testBit g = Lw h g) (hP : ∀ j, j < h → PI j = r j) (hr : ∀ j, j < h → r j < 4) : (frM a ne PI h).testBit v = (Aw h v && !anyN (fun g => Lw h g && decide (v = r g)) h) := by
  rw [frM_bit hv (fun j hj _ => by rw [hP j hj]; exact hr j hj), hA]
  congr 2
  exact anyN_congr (fun g hg => by rw [hN g hg, hP g hg])
theorem fold_n1 {v LLa : Nat} {bza : Nat → Nat} (hq1 : 1 ≤ q) (hq : ns - h = q) (hf : (LLa, bza) = forS (skF ns ks Aw Lw cf q h r) v (LL, bz)) (hb : (Aw h v && !anyN (fun g => Lw h g && decide (v = r g)) h) = false) : (LLa, bza) = forS (skF ns ks Aw Lw cf q h r) (v + 1) (LL, bz) := by
  refine fold_id hf (fun hA => ?_)
  rw [hA] at hb
  refine seek_unlaw (h := h + 1) (by omega) (by omega) ?_
  rw [lawB_1]
  simp at hb
  rw [hb]; simp
theorem fold_n2 {v LLa spt : Nat} {bza AH : Nat → Nat} (hq1 : 1 ≤ q) (hq : ns - h = q) (hAH : ahOk ns ks Aw cf AH) (hs : spt = cstN cf r h) (hf : (LLa, bza) = forS (skF ns ks Aw Lw cf q h r) v (LL, bz)) (hb : LLa ≤ spt + cf h v + AH (h + 1)) : (LLa, bza) = forS (skF ns ks Aw Lw cf q h r) (v + 1) (LL, bz) := by
  refine fold_id hf (fun hA => ?_)
  refine seek_dear (h := h + 1) (AH := AH) (by omega) (by omega) hAH ?_
  rw [cstN_1, ← hs]
  exact hb
theorem seek_out {LLa : Nat} {bza : Nat → Nat} (hq1 : 1 ≤ q) (hq : ns - h = q) (hf : (LLa, bza) = forS (skF ns ks Aw Lw cf q h r) ks (LL, bz)) : (LLa, bza) = enumF ns ks Aw (stK Lw cf ns) q r (LL, bz) := by
  obtain ⟨q2, rfl⟩ : ∃ q2, q = q2 + 1 := ⟨q - 1, by omega⟩
  rw [hf, enumF]
  have e : ns - (q2 + 1) = h := by omega
  rw [e]
  rfl
theorem pick_ext {PIa PI : Nat → Nat} {v : Nat} (h1 : ∀ j, j < h → PIa j = PI j) (h2 : ∀ j, j < h → PI j = r j) : ∀ j, j < h + 1 → updN PIa h v j = updN r h v j := by
  intro j hj
  by_cases e : j = h
  · subst e; rw [updN_s, updN_s]
  · rw [updN_n e, updN_n e, h1 j (by omega), h2 j (by omega)]
theorem pick_lt {v : Nat} (h1 : ∀ j, j < h → r j < 4) (hv : v < 4) : ∀ j, j < h + 1 → updN r h v j < 4 := by
  intro j hj
  by_cases e : j = h
  · subst e; rw [updN_s]; exact hv
  · rw [updN_n e]; exact h1 j (by omega)
theorem pick_keep {PI2 PIa PI : Nat → Nat} {v : Nat} (h1 : ∀ j, j < h + 1 → PI2 j = updN PIa h v j) (h2 : ∀ j, j < h → PIa j = PI j) : ∀ j, j < h → PI2 j = PI j := fun j hj => by rw [h1 j (by omega), updN_n (by omega), h2 j hj]
theorem ah_step {AH : Nat → Nat} {i a : Nat} {CO : Nat → Nat} (hi : i < ns) (hA : ∀ v, v < ks → a.testBit v = Aw i v) (hC : ∀ v, v < ks → CO (i * 4 + v) = cf i v)
    (h1 : ∀ h, i + 1 ≤ h → h ≤ ns → (∀ r, (∀ j, h ≤ j → j < ns → r j < ks ∧ Aw j (r j) = true) → cstN cf r h + AH h ≤ cstN cf r ns) ∧ AH h ≤ (ns - h) * 1000000) :
    ∀ h, i ≤ h → h ≤ ns → (∀ r, (∀ j, h ≤ j → j < ns → r j < ks ∧ Aw j (r j) = true) → cstN cf r h + updN AH i (AH (i + 1) + lcN a (fun v => CO (i * 4 + v)) ks) h ≤ cstN cf r ns) ∧ updN AH i (AH (i + 1) + lcN a (fun v => CO (i * 4 + v)) ks) h ≤ (ns - h) * 1000000 := by
  intro h h2 h3
  by_cases e : h = i
  · subst e
    rw [updN_s]
    obtain ⟨p1, p2⟩ := h1 (h + 1) (Nat.le_refl _) (by omega)
    refine ⟨fun r hr => ?_, ?_⟩
    · have q1 := p1 r (fun j hj1 hj2 => hr j (by omega) hj2)
      obtain ⟨q2, q3⟩ := hr h (Nat.le_refl _) hi
      have q4 : lcN a (fun v => CO (h * 4 + v)) ks ≤ CO (h * 4 + r h) := lcN_low (c := fun v => CO (h * 4 + v)) q2 (a := a) (by rw [hA _ q2]; exact q3)
      have q5 : cstN cf r (h + 1) = cstN cf r h + cf h (r h) := rfl
      have q6 := hC (r h) q2
      omega
    · have q1 := lcN_le a (fun v => CO (h * 4 + v)) ks
      have q2 : (ns - h) * 1000000 = (ns - (h + 1)) * 1000000 + 1000000 := by
        rw [show ns - h = (ns - (h + 1)) + 1 by omega, Nat.succ_mul]
      omega
  · rw [updN_n e]; exact h1 h (by omega) h3
end SEEK
theorem shr_all9 : ∀ m : Fin 256, ∀ i : Fin 9, (nI m.val >>> (nI i.val &&& 31)) = nI (m.val / 2 ^ i.val) := by decide +kernel
theorem shr_9 {mm i : Nat} (hm : mm < 256) (hi : i < 9) : (nI mm >>> (nI i &&& 31)) = nI (mm / 2 ^ i) := shr_all9 ⟨mm, hm⟩ ⟨i, hi⟩
theorem popc16 : ∀ ks : Fin 5, ∀ f : Fin 16, f.val < 2 ^ ks.val → popc f.val = sumN (fun v => if f.val.testBit v = true then 1 else 0) ks.val := by decide +kernel
theorem sumN_mul {f : Nat → Nat} {x : Nat} : ∀ {n : Nat}, sumN f n * x = sumN (fun v => f v * x) n
  | 0 => Nat.zero_mul x
  | n + 1 => by rw [sumN, sumN, Nat.add_mul, sumN_mul]
theorem frM_lt2 {a ne m : Nat} {pk : Nat → Nat} (ha : a < m) : ∀ g, frM a ne pk g < m
  | 0 => ha
  | g + 1 => by
    rw [frM]
    split
    · exact Nat.lt_of_le_of_lt Nat.and_le_left (frM_lt2 ha g)
    · exact frM_lt2 ha g
/-- a house that no later one is near: whatever it has, those behind it have as many ways -/
theorem ways_flat {ns ks q h : Nat} {AL NE PI : Nat → Nat} (hks : ks ≤ 4) (hq1 : 1 ≤ q) (hq : ns - h = q) (hA : AL h < 2 ^ ks) (hno : ∀ j, h < j → j < ns → (NE j).testBit h = false) :
    popc (frM (AL h) (NE h) PI h) * wF ns ks AL NE (q - 1) PI = wF ns ks AL NE q PI := by
  obtain ⟨q2, rfl⟩ : ∃ q2, q = q2 + 1 := ⟨q - 1, by omega⟩
  have e : ns - (q2 + 1) = h := by omega
  rw [wF, e]
  have h16 : frM (AL h) (NE h) PI h < 16 := frM_lt2 (Nat.lt_of_lt_of_le hA (Nat.pow_le_pow_right (n := 2) (by omega) hks)) h
  rw [popc16 ⟨ks, by omega⟩ ⟨_, h16⟩ (frM_lt2 hA h), sumN_mul]
  refine sumN_congr (fun v _ => ?_)
  show (if (frM (AL h) (NE h) PI h).testBit v = true then 1 else 0) * wF ns ks AL NE q2 PI = _
  by_cases z : (frM (AL h) (NE h) PI h).testBit v = true
  · rw [if_pos z, if_pos z, Nat.one_mul]
    refine wF_agree (by omega) (fun g hg hx => ?_)
    obtain ⟨j, h1, h2, h3⟩ := hx
    by_cases e2 : g = h
    · subst e2; rw [hno j (by omega) h2] at h3; exact absurd h3 (by decide)
    · rw [updN_n e2]
  · rw [if_neg z, if_neg z, Nat.zero_mul]
theorem ways_out {ns ks q h : Nat} {AL NE PI : Nat → Nat} (hq1 : 1 ≤ q) (hq : ns - h = q) : sumN (fun v => if (frM (AL h) (NE h) PI h).testBit v = true then wF ns ks AL NE (q - 1) (updN PI h v) else 0) ks = wF ns ks AL NE q PI := by
  obtain ⟨q2, rfl⟩ : ∃ q2, q = q2 + 1 := ⟨q - 1, by omega⟩
  have e : ns - (q2 + 1) = h := by omega
  rw [wF, e]
  rfl
theorem ways_pick {ns ks q h : Nat} {AL NE PIa PI : Nat → Nat} {v : Nat} (hq : ns - (h + 1) = q) (h1 : ∀ j, j < h → PIa j = PI j) : wF ns ks AL NE q (updN PIa h v) = wF ns ks AL NE q (updN PI h v) := by
  by_cases hle : q ≤ ns
  · refine wF_agree hle (fun g hg _ => ?_)
    by_cases e : g = h
    · subst e; rw [updN_s, updN_s]
    · rw [updN_n e, updN_n e]
      by_cases z : h + 1 ≤ ns
      · exact h1 g (by omega)
      · omega
  · omega
def ansK (LL : Nat) (bz : Nat → Nat) (ns : Nat) (h : Int32) : Int32 := if LL < 1000000 then (if inb h ns = true then nI (bz (tn h)) else nI LL) else (-9)
theorem no_later {ne h ns : Nat} {NE : Nat → Nat} (hd : ne / 2 ^ (h + 1) = 0) (hs : ∀ j, h < j → j < ns → (NE j).testBit h = ne.testBit j) : ∀ j, h < j → j < ns → (NE j).testBit h = false := by
  intro j h1 h2
  rw [hs j h1 h2]
  have hlt : ne < 2 ^ (h + 1) := by
    rcases Nat.lt_or_ge ne (2 ^ (h + 1)) with z | z
    · exact z
    · have := Nat.div_pos z (Nat.two_pow_pos (h + 1)); omega
  exact Nat.testBit_lt_two_pow (Nat.lt_of_lt_of_le hlt (Nat.pow_le_pow_right (by omega) (by omega)))
