/-! the stream ends -/
section STR
variable {F : Nat → Nat} {ty : Nat}
theorem tkE_gt {s : Nat} (h : s < ty) : s + 1 ≤ tkE F ty s := by
  unfold tkE
  rw [if_neg (by omega)]
  by_cases h1 : ltB F ty s = true
  · rw [if_pos h1]
    unfold leE
    rw [runE_go h1 h]
    exact (runE_le (P := ltB F ty) (ty := ty) (ty - (s + 1)) (s + 1) (by omega)).1
  · rw [if_neg h1]
    by_cases h2 : dgB F ty s = true
    · rw [if_pos h2]
      unfold dgE
      rw [runE_go h2 h]
      exact (runE_le (P := dgB F ty) (ty := ty) (ty - (s + 1)) (s + 1) (by omega)).1
    · rw [if_neg h2]; exact Nat.le_refl _
theorem ck_in {s : Nat} (h : ¬ ckN F ty s = 0) : s < ty := by
  rcases Nat.lt_or_ge s ty with z | z
  · exact z
  · exact absurd (if_pos z) h
theorem stP_le : ∀ k, stP F ty k ≤ ty
  | 0 => (skN_le (Nat.zero_le ty)).2
  | k + 1 => (skN_le (tkE_le (stP_le k))).2
theorem stP_ge : ∀ k, (∀ i, i < k → ¬ ckN F ty (stP F ty i) = 0) → k ≤ stP F ty k
  | 0, _ => Nat.zero_le _
  | k + 1, h => by
    have h1 := stP_ge k (fun i hi => h i (by omega))
    have h2 := tkE_gt (F := F) (ck_in (h k (by omega)))
    have h3 := (skN_le (F := F) (tkE_le (F := F) (stP_le (F := F) (ty := ty) k))).1
    show k + 1 ≤ skN F ty (tkE F ty (stP F ty k))
    omega
theorem st_end {tz : Nat} (hty : ty ≤ 300) (hne : ∀ j, j + 1 < tz → ¬ ckN F ty (stP F ty j) = 0) (h1 : 1 ≤ tz) (h : ckN F ty (stP F ty (tz - 1)) = 0 ∨ tz = 301) : ckN F ty (stP F ty (tz - 1)) = 0 := by
  rcases h with h | h
  · exact h
  · have h2 := stP_ge (F := F) (ty := ty) (tz - 1) (fun i hi => hne i (by omega))
    exact if_pos (by omega)
end STR
