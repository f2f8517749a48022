/-! images; a change -/
section XB5
variable {p : Program} {l : Launch} {e : Env} {R : Room} {s : State} {m : MethodId} {args : Array Value} {below : List Frame} {meth : Method} {c : Code} {H : Heap} {locs : List Loc} {cells slots : Nat} {Q : State → Prop} {pc : Nat} {ls : Array Slot}
variable {D : va_G} {tys : List (ClassId × FieldType)} {A : Nat → Prop} {ww : va_W} {cc : ByteArray} {rest : List Value} {cl : List vw_C} {a : Nat} {H0 : Heap}
theorem x_aald (hexec : p.tables.exec = Jvm.exec) (hb : c.code = cc) (hK : va_K D cl tys s) (hP : va_P D cl ww H) (q0 t0 : Nat) {cA : ClassId} {C : String} {n : Nat} {f : Nat → Option Nat} (ha : ww[q0]? = some (a, .inl (cA, n, .inr (.inr (.inr (.inr f)))))) (ht : tys[t0]? = some (cA, .object C)) {j r : Nat} (hr : f j = some r) (hj : j < n) (hn : n < 2 ^ 31) (hdg : decode cc pc = .ok (.aaload, 1))
    (kk : W p l e R s m args below meth c H locs cells slots Q (F0 m (pc + 1) ls (.ref r :: rest))) : W p l e R s m args below meth c H locs cells slots Q (F0 m pc ls (.int (nI j) :: .ref a :: rest)) := by
  refine va_aldq hexec hb hK hP q0 t0 ha ht (vp_in_nI hj hn) hdg ?_
  rw [nI_clamp (Nat.lt_trans hj hn), hr]
  exact kk
end XB5
theorem chgA {k : Nat} {bo : Nat → Int32} {c sv j A : Nat} (hA : A < 16 ∧ ∀ v, v < k → A.testBit v = AwM bo j v) (hk : k ≤ 4) (hsv : sv < k) (hb : ¬ (¬ bo c = (-9) ∧ ¬ bo c = nI sv)) :
    (if j = c then 2 ^ sv else A) < 16 ∧ ∀ v, v < k → (if j = c then 2 ^ sv else A).testBit v = onA (AwM bo) c sv j v := by
  unfold onA
  by_cases e : j = c
  · subst e
    rw [if_pos rfl]
    refine ⟨Nat.lt_of_lt_of_le (Nat.pow_lt_pow_right (a := 2) (by omega) (show sv < 4 by omega)) (by decide), fun v hv => ?_⟩
    rw [Nat.testBit_two_pow, decide_eq_true (rfl : j = j), Bool.not_true, Bool.false_or]
    by_cases q : v = sv
    · subst q
      have hx : AwM bo j v = true := by
        unfold AwM
        by_cases z : bo j = (-9)
        · rw [decide_eq_true z]; rfl
        · rw [decide_eq_true (show bo j = nI v from Decidable.byContradiction (fun w => hb ⟨z, w⟩)), Bool.or_true]
      rw [hx]; simp
    · rw [decide_eq_false q, decide_eq_false (fun z => q z.symm), Bool.and_false]
  · rw [if_neg e, decide_eq_false e]
    refine ⟨hA.1, fun v hv => ?_⟩
    rw [hA.2 v hv]; simp
