/-! the search: lawful rows, their costs, what may be passed over -/
theorem forS_id2 {σ : Type} {f : Nat → σ → σ} {a : σ} : ∀ {k : Nat}, (∀ i x, i < k → x = a → f i x = a) → forS f k a = a
  | 0, _ => rfl
  | k + 1, h => by rw [forS, forS_id2 (k := k) (fun i x hi hx => h i x (by omega) hx)]; exact h k a (by omega) rfl
theorem forS_rel {σ τ : Type} {f : Nat → σ → σ} {g : Nat → τ → τ} (Rl : σ → τ → Prop) : ∀ {k : Nat} {a : σ} {b : τ}, (∀ i x y, i < k → Rl x y → Rl (f i x) (g i y)) → Rl a b → Rl (forS f k a) (forS g k b)
  | 0, _, _, _, h => h
  | k + 1, a, b, hs, h => hs k _ _ (by omega) (forS_rel Rl (k := k) (fun i x y hi hxy => hs i x y (by omega) hxy) h)
theorem enumF_noop {σ : Type} {n k : Nat} {Aw : Nat → Nat → Bool} {step : (Nat → Nat) → σ → σ} {a : σ} : ∀ {q : Nat} {r : Nat → Nat}, q ≤ n → (∀ r2, (∀ j, j < n - q ∨ n ≤ j → r2 j = r j) → (∀ j, n - q ≤ j → j < n → r2 j < k ∧ Aw j (r2 j) = true) → step r2 a = a) → enumF n k Aw step q r a = a
  | 0, r, _, h => h r (fun _ _ => rfl) (fun j h1 h2 => by omega)
  | q + 1, r, hq, h => by
    rw [enumF]
    refine forS_id2 (fun i x hi hx => ?_)
    rw [hx]
    by_cases z : Aw (n - (q + 1)) i = true
    · rw [if_pos z]
      refine enumF_noop (by omega) (fun r2 h1 h2 => h r2 (fun j hj => ?_) (fun j hj1 hj2 => ?_))
      · rw [h1 j (by omega), updN_n (by omega)]
      · by_cases e : j = n - (q + 1)
        · subst e
          rw [h1 _ (by omega), updN_s]; exact ⟨hi, z⟩
        · exact h2 j (by omega) hj2
    · rw [if_neg z]
/-- two searches side by side -/
theorem enumF_rel {σ τ : Type} {n k : Nat} {Aw Bw : Nat → Nat → Bool} {s1 : (Nat → Nat) → σ → σ} {s2 : (Nat → Nat) → τ → τ} (Rl : σ → τ → Prop) (hA : ∀ j v, j < n → v < k → Aw j v = Bw j v) (hs : ∀ r a b, (∀ j, j < n → r j < k ∧ Aw j (r j) = true) → Rl a b → Rl (s1 r a) (s2 r b)) :
    ∀ {q : Nat} {r : Nat → Nat} {a : σ} {b : τ}, q ≤ n → (∀ j, j < n - q → r j < k ∧ Aw j (r j) = true) → Rl a b → Rl (enumF n k Aw s1 q r a) (enumF n k Bw s2 q r b)
  | 0, r, a, b, _, hr, h => hs r a b (fun j hj => hr j (by omega)) h
  | q + 1, r, a, b, hq, hr, h => by
    rw [enumF, enumF]
    refine forS_rel Rl (fun i x y hi hxy => ?_) h
    rw [← hA _ i (by omega) hi]
    by_cases z : Aw (n - (q + 1)) i = true
    · rw [if_pos z, if_pos z]
      refine enumF_rel Rl hA hs (by omega) (fun j hj => ?_) hxy
      by_cases e : j = n - (q + 1)
      · subst e; rw [updN_s]; exact ⟨hi, z⟩
      · rw [updN_n e]; exact hr j (by omega)
    · rw [if_neg z, if_neg z]; exact hxy
/-- what a filter on one house leaves -/
theorem enumF_only {σ : Type} {n k c v : Nat} {Aw : Nat → Nat → Bool} {step : (Nat → Nat) → σ → σ} (hc : c < n) (hs : ∀ r a, ¬ r c = v → step r a = a) : ∀ {q : Nat} {r : Nat → Nat} {a : σ}, q ≤ n → enumF n k Aw step q r a = enumF n k (fun j w => Aw j w && (!decide (j = c) || decide (w = v))) step q r a
  | 0, _, _, _ => rfl
  | q + 1, r, a, hq => by
    rw [enumF, enumF]
    refine forS_congr (fun i x hi => ?_)
    by_cases z : Aw (n - (q + 1)) i = true
    · rw [if_pos z]
      by_cases e : n - (q + 1) = c
      · by_cases e2 : i = v
        · rw [if_pos (by rw [z, decide_eq_true e2]; simp), enumF_only hc hs (by omega)]
        · rw [if_neg (by rw [z, decide_eq_true e, decide_eq_false e2]; decide)]
          refine enumF_noop (by omega) (fun r2 h1 _ => hs r2 x ?_)
          rw [h1 c (by omega), e, updN_s]; exact e2
      · rw [if_pos (by rw [z, decide_eq_false e]; rfl), enumF_only hc hs (by omega)]
    · rw [if_neg z, if_neg (by simp [z])]
def lawB (Lw : Nat → Nat → Bool) (r : Nat → Nat) : Nat → Bool
  | 0 => true
  | h + 1 => lawB Lw r h && !anyN (fun g => Lw h g && decide (r h = r g)) h
theorem anyN_congr {P Q : Nat → Bool} : ∀ {n : Nat}, (∀ g, g < n → P g = Q g) → anyN P n = anyN Q n
  | 0, _ => rfl
  | n + 1, h => by rw [anyN, anyN, h n (Nat.lt_succ_self n), anyN_congr (fun g hg => h g (Nat.lt_succ_of_lt hg))]
theorem lawB_congr {Lw : Nat → Nat → Bool} {r r2 : Nat → Nat} : ∀ {h : Nat}, (∀ j, j < h → r j = r2 j) → lawB Lw r h = lawB Lw r2 h
  | 0, _ => rfl
  | h + 1, e => by
    rw [lawB, lawB, lawB_congr (fun j hj => e j (by omega))]
    congr 2
    exact anyN_congr (fun g hg => by rw [e h (by omega), e g (by omega)])
theorem lawB_down {Lw : Nat → Nat → Bool} {r : Nat → Nat} {h : Nat} (q : lawB Lw r h = false) : ∀ d, lawB Lw r (h + d) = false
  | 0 => q
  | d + 1 => by
    show (lawB Lw r (h + d) && _) = false
    rw [lawB_down q d]; rfl
def cstN (c : Nat → Nat → Nat) (r : Nat → Nat) (n : Nat) : Nat := sumN (fun h => c h (r h)) n
theorem cstN_congr {c : Nat → Nat → Nat} {r r2 : Nat → Nat} {h : Nat} (e : ∀ j, j < h → r j = r2 j) : cstN c r h = cstN c r2 h := sumN_congr (fun g hg => by rw [e g hg])
theorem cstN_1 {c : Nat → Nat → Nat} {r : Nat → Nat} {h v : Nat} : cstN c (updN r h v) (h + 1) = cstN c r h + c h v := by
  show cstN c (updN r h v) h + c h (updN r h v h) = cstN c r h + c h v
  rw [updN_s, cstN_congr (c := c) (r := updN r h v) (r2 := r) (h := h) (fun j hj => updN_n (by omega))]
theorem cstN_le {c : Nat → Nat → Nat} {r : Nat → Nat} {m : Nat} : ∀ {h : Nat}, (∀ j, j < h → c j (r j) ≤ m) → cstN c r h ≤ h * m
  | 0, _ => Nat.zero_le _
  | h + 1, e => by
    have h1 := cstN_le (c := c) (r := r) (m := m) (h := h) (fun j hj => e j (by omega))
    have h2 := e h (by omega)
    show cstN c r h + c h (r h) ≤ (h + 1) * m
    rw [Nat.succ_mul]; omega
def stK (Lw : Nat → Nat → Bool) (c : Nat → Nat → Nat) (n : Nat) (r : Nat → Nat) (a : Nat × (Nat → Nat)) : Nat × (Nat → Nat) := if lawB Lw r n = true ∧ cstN c r n < a.1 then (cstN c r n, r) else a
/-- what the houses from one on cost at least -/
def ahOk (n k : Nat) (Aw : Nat → Nat → Bool) (c : Nat → Nat → Nat) (AH : Nat → Nat) : Prop := ∀ h, h ≤ n → ∀ r, (∀ j, h ≤ j → j < n → r j < k ∧ Aw j (r j) = true) → cstN c r h + AH h ≤ cstN c r n
theorem seek_unlaw {n k q h : Nat} {Aw Lw : Nat → Nat → Bool} {c : Nat → Nat → Nat} {r : Nat → Nat} {a : Nat × (Nat → Nat)} (hq : q ≤ n) (hh : h = n - q) (hl : lawB Lw r h = false) : enumF n k Aw (stK Lw c n) q r a = a := by
  refine enumF_noop hq (fun r2 h1 _ => ?_)
  have e1 : lawB Lw r2 h = false := by rw [lawB_congr (r2 := r) (fun j hj => h1 j (by omega))]; exact hl
  have e2 := lawB_down e1 (n - h)
  rw [show h + (n - h) = n by omega] at e2
  unfold stK
  rw [if_neg (fun z => by rw [e2] at z; exact absurd z.1 (by decide))]
theorem seek_dear {n k q h : Nat} {Aw Lw : Nat → Nat → Bool} {c : Nat → Nat → Nat} {AH : Nat → Nat} {r : Nat → Nat} {a : Nat × (Nat → Nat)} (hq : q ≤ n) (hh : h = n - q) (hAH : ahOk n k Aw c AH) (hd : a.1 ≤ cstN c r h + AH h) : enumF n k Aw (stK Lw c n) q r a = a := by
  refine enumF_noop hq (fun r2 h1 h2 => ?_)
  have e1 := hAH h (by omega) r2 (fun j hj1 hj2 => h2 j (by omega) hj2)
  rw [cstN_congr (r2 := r) (fun j hj => h1 j (by omega))] at e1
  unfold stK
  rw [if_neg (fun z => by have := z.2; omega)]
/-- the sorts that a house may have behind the picks ahead of it, as bits -/
def frM (a ne : Nat) (pk : Nat → Nat) : Nat → Nat
  | 0 => a
  | g + 1 => if ne.testBit g = true then frM a ne pk g &&& (15 ^^^ 2 ^ pk g) else frM a ne pk g
theorem frM_lt {a ne : Nat} {pk : Nat → Nat} (ha : a < 16) : ∀ g, frM a ne pk g < 16
  | 0 => ha
  | g + 1 => by
    rw [frM]
    split
    · exact Nat.lt_of_le_of_lt Nat.and_le_left (frM_lt ha g)
    · exact frM_lt ha g
theorem bit15 : ∀ p v : Fin 4, (15 ^^^ 2 ^ p.val : Nat).testBit v.val = !decide (v.val = p.val) := by decide +kernel
theorem frM_bit {a ne : Nat} {pk : Nat → Nat} {v : Nat} (hv : v < 4) : ∀ {g : Nat}, (∀ j, j < g → ne.testBit j = true → pk j < 4) → (frM a ne pk g).testBit v = (a.testBit v && !anyN (fun j => ne.testBit j && decide (v = pk j)) g)
  | 0, _ => by simp [frM, anyN]
  | g + 1, hp => by
    have ih := frM_bit (a := a) (ne := ne) (pk := pk) hv (g := g) (fun j hj => hp j (by omega))
    rw [frM, anyN]
    by_cases z : ne.testBit g = true
    · rw [if_pos z, Nat.testBit_and, ih, z, bit15 ⟨pk g, hp g (by omega) z⟩ ⟨v, hv⟩]
      simp [Bool.and_assoc]
    · rw [if_neg z, ih, Bool.eq_false_iff.2 z]; simp
theorem frM_congr {a ne : Nat} {pk pk2 : Nat → Nat} : ∀ {g : Nat}, (∀ j, j < g → ne.testBit j = true → pk j = pk2 j) → frM a ne pk g = frM a ne pk2 g
  | 0, _ => rfl
  | g + 1, h => by
    rw [frM, frM, frM_congr (fun j hj => h j (by omega))]
    by_cases z : ne.testBit g = true
    · rw [if_pos z, if_pos z, h g (by omega) z]
    · rw [if_neg z, if_neg z]
/-- how many ways from a house on -/
def wF (n k : Nat) (AL NE : Nat → Nat) : Nat → (Nat → Nat) → Nat
  | 0, _ => 1
  | q + 1, pk => sumN (fun v => if (frM (AL (n - (q + 1))) (NE (n - (q + 1))) pk (n - (q + 1))).testBit v = true then wF n k AL NE q (updN pk (n - (q + 1)) v) else 0) k
theorem wF_agree {n k : Nat} {AL NE : Nat → Nat} : ∀ {q : Nat} {p1 p2 : Nat → Nat}, q ≤ n → (∀ g, g < n - q → (∃ h, n - q ≤ h ∧ h < n ∧ (NE h).testBit g = true) → p1 g = p2 g) → wF n k AL NE q p1 = wF n k AL NE q p2
  | 0, _, _, _, _ => rfl
  | q + 1, p1, p2, hq, h => by
    rw [wF, wF]
    refine sumN_congr (fun v _ => ?_)
    rw [frM_congr (pk := p1) (pk2 := p2) (fun j hj hb => h j hj ⟨_, Nat.le_refl _, by omega, hb⟩)]
    split
    · refine wF_agree (by omega) (fun g hg hx => ?_)
      obtain ⟨h3, h4, h5, h6⟩ := hx
      by_cases e : g = n - (q + 1)
      · subst e; rw [updN_s, updN_s]
      · rw [updN_n e, updN_n e]; exact h g (by omega) ⟨h3, by omega, h5, h6⟩
    · rfl
def alN (bo : Nat → Int32) (k h : Nat) : Nat := if bo h = (-9) then 2 ^ k - 1 else 2 ^ tn (bo h)
theorem updN_ext {t f : Nat → Nat} {i x : Nat} (h : ∀ j, j < i → t j = f j) (hx : x = f i) : ∀ j, j < i + 1 → updN t i x j = f j := by
  intro j hj
  by_cases q : j = i
  · subst q; rw [updN_s]; exact hx
  · rw [updN_n q]; exact h j (by omega)
theorem cost_in {C PR : Nat → Nat} {i j : Nat} (h : ∀ v, v < j → C (i * 4 + v) = PR v) : ∀ v, v < j + 1 → updN C (i * 4 + j) (PR j) (i * 4 + v) = PR v := by
  intro v hv
  by_cases q : v = j
  · subst q; exact updN_s
  · rw [updN_n (by omega)]; exact h v (by omega)
theorem cost_in2 {C : Nat → Nat} {f : Nat → Nat} {i j x : Nat} (h : ∀ v, v < j → C (i * 4 + v) = f v) (hx : x = f j) : ∀ v, v < j + 1 → updN C (i * 4 + j) x (i * 4 + v) = f v := by
  intro v hv
  by_cases q : v = j
  · subst q; rw [updN_s]; exact hx
  · rw [updN_n (by omega)]; exact h v (by omega)
theorem cost_off {C D : Nat → Nat} {i j x0 : Nat} (h : ∀ x, x < i * 4 → C x = D x) (_ : 0 ≤ j) : ∀ x, x < i * 4 → updN C (i * 4 + j) x0 x = D x := by
  intro x hx
  rw [updN_n (by omega)]; exact h x hx
theorem cost_off2 {C D : Nat → Nat} {i j x0 : Nat} (h : ∀ x, (x < i * 4 ∨ i * 4 + 4 ≤ x) → C x = D x) (hj : j < 4) : ∀ x, (x < i * 4 ∨ i * 4 + 4 ≤ x) → updN C (i * 4 + j) x0 x = D x := by
  intro x hx
  rw [updN_n (by omega)]; exact h x hx
theorem cost_row {C D PR : Nat → Nat} {i k : Nat} (h : ∀ g, g < i → ∀ v, v < k → D (g * 4 + v) = PR v) (h2 : ∀ v, v < k → C (i * 4 + v) = PR v) (h0 : ∀ x, x < i * 4 → C x = D x) (hk : k ≤ 4 := by omega) : ∀ g, g < i + 1 → ∀ v, v < k → C (g * 4 + v) = PR v := by
  intro g hg v hv
  by_cases q : g = i
  · subst q; exact h2 v hv
  · rw [h0 _ (by omega)]; exact h g (by omega) v hv
theorem chg_al1 {ALa AL : Nat → Nat} {ch sv i : Nat} (h : ∀ g, ALa g = (if g = ch ∧ g < i then 2 ^ sv else AL g)) (q : i = ch) : ∀ g, updN ALa i (2 ^ sv) g = (if g = ch ∧ g < i + 1 then 2 ^ sv else AL g) := by
  intro g
  by_cases z : g = i
  · subst z; rw [updN_s, if_pos ⟨q, by omega⟩]
  · rw [updN_n z, h g, if_neg (by omega), if_neg (by omega)]
theorem chg_al2 {ALa AL : Nat → Nat} {ch sv i : Nat} (h : ∀ g, ALa g = (if g = ch ∧ g < i then 2 ^ sv else AL g)) (q : ¬ i = ch) : ∀ g, ALa g = (if g = ch ∧ g < i + 1 then 2 ^ sv else AL g) := by
  intro g
  rw [h g]
  by_cases z : g = ch ∧ g < i
  · rw [if_pos z, if_pos ⟨z.1, by omega⟩]
  · rw [if_neg z, if_neg (by omega)]
theorem chg_co1 {COa CO : Nat → Nat} {rf : Nat → Int32} {ch i k : Nat} (h : ∀ g, g < i → ∀ v, v < k → COa (g * 4 + v) = (if g = ch then CO (g * 4 + v) else if nI v = rf g then 0 else 1)) (q : i = ch) (h3 : ∀ x, i * 4 ≤ x → COa x = CO x) (_ : k ≤ 4) : ∀ g, g < i + 1 → ∀ v, v < k → COa (g * 4 + v) = (if g = ch then CO (g * 4 + v) else if nI v = rf g then 0 else 1) := by
  intro g hg v hv
  by_cases z : g = i
  · subst z; rw [if_pos q, h3 _ (by omega)]
  · exact h g (by omega) v hv
theorem chg_co2 {COb COa CO : Nat → Nat} {rf : Nat → Int32} {ch i k : Nat} (h : ∀ g, g < i → ∀ v, v < k → COa (g * 4 + v) = (if g = ch then CO (g * 4 + v) else if nI v = rf g then 0 else 1)) (q : ¬ i = ch) (h4 : ∀ v, v < k → COb (i * 4 + v) = (if nI v = rf i then 0 else 1)) (h5 : ∀ x, (x < i * 4 ∨ i * 4 + 4 ≤ x) → COb x = COa x) (hk : k ≤ 4) : ∀ g, g < i + 1 → ∀ v, v < k → COb (g * 4 + v) = (if g = ch then CO (g * 4 + v) else if nI v = rf g then 0 else 1) := by
  intro g hg v hv
  by_cases z : g = i
  · subst z; rw [if_neg q, h4 v hv]
  · rw [h5 _ (by omega)]; exact h g (by omega) v hv
theorem bit_all8 : ∀ m : Fin 256, ∀ i : Fin 8, ((nI m.val >>> (nI i.val &&& 31)) &&& 1) = bb (m.val.testBit i.val) := by decide +kernel
theorem bit_a {mm i : Nat} (hm : mm < 256) (hi : i < 8) : ((nI mm >>> (nI i &&& 31)) &&& 1) = bb (mm.testBit i) := bit_all8 ⟨mm, hm⟩ ⟨i, hi⟩
theorem andnot_all : ∀ f : Fin 16, ∀ v : Fin 4, nI f.val &&& (nI (2 ^ v.val) ^^^ (-1)) = nI (f.val &&& (15 ^^^ 2 ^ v.val)) := by decide +kernel
theorem andnot {f v : Nat} (hf : f < 16) (hv : v < 4) : nI f &&& (nI (2 ^ v) ^^^ (-1)) = nI (f &&& (15 ^^^ 2 ^ v)) := andnot_all ⟨f, hf⟩ ⟨v, hv⟩
def lcN (a : Nat) (c : Nat → Nat) : Nat → Nat
  | 0 => 1000000
  | i + 1 => if a.testBit i = true then min (lcN a c i) (c i) else lcN a c i
theorem lcN_le (a : Nat) (c : Nat → Nat) : ∀ i, lcN a c i ≤ 1000000
  | 0 => Nat.le_refl _
  | i + 1 => by
    rw [lcN]
    have := lcN_le a c i
    split <;> omega
theorem lcN_low {a : Nat} {c : Nat → Nat} {v : Nat} : ∀ {i : Nat}, v < i → a.testBit v = true → lcN a c i ≤ c v
  | 0, h, _ => absurd h (Nat.not_lt_zero _)
  | i + 1, h, hb => by
    rw [lcN]
    by_cases q : v = i
    · subst q; rw [if_pos hb]; omega
    · have := lcN_low (c := c) (show v < i by omega) hb
      split <;> omega
theorem xmin_nI {a b : Nat} (ha : a ≤ 1000000) (hb : b ≤ 1000000) : xmin (nI a) (nI b) = nI (min a b) := by
  unfold xmin
  by_cases q : b < a
  · rw [if_pos (nI_lt q (by omega)), Nat.min_eq_right (by omega)]
  · rw [if_neg (nI_nlt (by omega) (by omega)), Nat.min_eq_left (by omega)]
theorem bb_eq1 {b : Bool} (h : bb b = 1) : b = true := by cases b with
  | true => rfl
  | false => exact absurd h (by decide)
theorem bb_neq1 {b : Bool} (h : ¬ bb b = 1) : b = false := by cases b with
  | false => rfl
  | true => exact absurd rfl h
theorem chg_alf {ALa AL : Nat → Nat} {ch sv i n : Nat} (h : ∀ g, ALa g = (if g = ch ∧ g < i then 2 ^ sv else AL g)) (hi : n ≤ i) : ∀ g, g < n → ALa g = (if g = ch then 2 ^ sv else AL g) := by
  intro g hg
  rw [h g]
  by_cases q : g = ch
  · rw [if_pos ⟨q, by omega⟩, if_pos q]
  · rw [if_neg (fun z => q z.1), if_neg q]
