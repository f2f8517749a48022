/-! rows that hold natural numbers; a copy of a row of eight -/
theorem upd_rI {f : Nat → Nat} {j x : Nat} : upd (rI f) j (nI x) = rI (updN f j x) := by
  funext i
  by_cases q : i = j
  · subst q; rw [pk_us]; show nI x = nI (updN f i x i); rw [updN_s]
  · rw [pk_un q]; show nI (f i) = nI (updN f j x i); rw [updN_n q]
theorem nI_all (x : Int32) : ∃ g : Nat, x = nI g := by
  refine ⟨x.toBitVec.toNat, ?_⟩
  apply Int32.toBitVec_inj.1
  show x.toBitVec = BitVec.ofNat 32 x.toBitVec.toNat
  simp
theorem ex_rI (f : Nat → Int32) : ∃ g : Nat → Nat, f = rI g := by
  have h : ∀ j, ∃ g, f j = nI g := fun j => nI_all (f j)
  obtain ⟨g, hg⟩ := Classical.axiomOfChoice h
  exact ⟨g, funext hg⟩
theorem xP_swap {D : va_G} {cl : List vw_C} {ws : va_W} {H : Heap} {q1 a : Nat} {e1 e2 : va_E} (h : va_P D cl (ws.set q1 (a, e1)) H) (hx : va_at D cl (a, e1) H → va_at D cl (a, e2) H) : va_P D cl (ws.set q1 (a, e2)) H := by
  intro k q hk
  by_cases hkq : k = q1
  · subst hkq
    have hl : k < ws.length := by
      have := (List.getElem?_eq_some_iff.mp hk).1
      simpa using this
    rw [List.getElem?_set_self hl] at hk
    cases hk
    exact hx (h k (a, e1) (List.getElem?_set_self hl))
  · rw [List.getElem?_set_ne (Ne.symm hkq)] at hk
    exact h k q (by rw [List.getElem?_set_ne (Ne.symm hkq)]; exact hk)
theorem xD_swap {A : Nat → Prop} {ws : va_W} {q1 a : Nat} {e1 e2 : va_E} (h : va_D A (ws.set q1 (a, e1))) : va_D A (ws.set q1 (a, e2)) := by
  have key : ∀ (k : Nat) (q : Nat × va_E), (ws.set q1 (a, e2))[k]? = some q → ∃ q0, (ws.set q1 (a, e1))[k]? = some q0 ∧ q0.1 = q.1 := by
    intro k q hk
    by_cases hkq : k = q1
    · subst hkq
      have hl : k < ws.length := by
        have := (List.getElem?_eq_some_iff.mp hk).1
        simpa using this
      rw [List.getElem?_set_self hl] at hk
      cases hk
      exact ⟨_, List.getElem?_set_self hl, rfl⟩
    · rw [List.getElem?_set_ne (Ne.symm hkq)] at hk
      exact ⟨q, by rw [List.getElem?_set_ne (Ne.symm hkq)]; exact hk, rfl⟩
  refine ⟨fun i j x y hi hj hxy => ?_, fun k q hk => ?_⟩
  · obtain ⟨x0, h1, h2⟩ := key i x hi
    obtain ⟨y0, h3, h4⟩ := key j y hj
    exact h.1 i j x0 y0 h1 h3 (h2.trans (hxy.trans h4.symm))
  · obtain ⟨q0, h1, h2⟩ := key k q hk
    rw [← h2]
    exact h.2 k q0 h1
section XB3
variable {p : Program} {l : Launch} {e : Env} {R : Room} {s : State} {m : MethodId} {args : Array Value} {below : List Frame} {meth : Method} {c : Code} {H : Heap} {locs : List Loc} {cells slots : Nat} {Q : State → Prop} {pc : Nat} {ls : Array Slot}
variable {D : va_G} {tys : List (ClassId × FieldType)} {A : Nat → Prop} {ww : va_W} {cc : ByteArray} {rest : List Value} {cl : List vw_C} {a : Nat} {H0 : Heap}
theorem x_iastN (hexec : p.tables.exec = Jvm.exec) (hb : c.code = cc) (hK : va_K D cl tys s) (hP : va_P D cl ww H) (hD : va_D A ww) (hS : va_S A H0 H locs) (q0 t0 : Nat) {cA : ClassId} {n : Nat} {f : Nat → Nat} (ha : ww[q0]? = some (a, .inl (cA, n, .inl (rI f)))) (ht : tys[t0]? = some (cA, .int)) {j x : Nat} (hj : j < n) (hn : n < 2 ^ 31) (hdg : decode cc pc = .ok (.iastore, 1))
    (kk : ∀ (H1 : Heap) (locs1 : List Loc), va_P D cl (ww.set q0 (a, .inl (cA, n, .inl (rI (updN f j x))))) H1 → va_D A (ww.set q0 (a, .inl (cA, n, .inl (rI (updN f j x))))) → va_S A H0 H1 locs1 → W p l e R s m args below meth c H1 locs1 cells slots Q (F0 m (pc + 1) ls rest)) : W p l e R s m args below meth c H locs cells slots Q (F0 m pc ls (.int (nI x) :: .int (nI j) :: .ref a :: rest)) := by
  refine x_iast hexec hb hK hP hD hS q0 t0 ha ht hj hn hdg (fun H1 locs1 h1 h2 h3 => ?_)
  rw [upd_rI] at h1 h2
  exact kk H1 locs1 h1 h2 h3
theorem x_copy8 (hexec : p.tables.exec = Jvm.exec) (hb : c.code = cc) (hml : c.maxLocals = ls.size) {own : String} {index : Nat} (hown : s.vm.findClass own = some m.cls) (hlink : (Cond.methodLink own index arraycopyName).before args s = true) (hnat : (Cond.native arraycopyName).before args s = true) (hstat : (Cond.static arraycopyName).before args s = true) (hini : (Cond.initialized "java/lang/System").before args s = true)
    (hK : va_K D cl tys s) (hP : va_P D cl ww H) (hD : va_D A ww) (hS : va_S A H0 H locs) (q0 q1 t0 : Nat) {a0 : Nat} {cA : ClassId} {f g : Nat → Int32} (ha0 : ww[q0]? = some (a0, .inl (cA, 8, .inl f))) (ha1 : ww[q1]? = some (a, .inl (cA, 8, .inl g))) (ht : tys[t0]? = some (cA, .int))
    (hframes : 1 ≤ R.frames) (hlocals : (rest.map fun v => v.category).sum + (nativeFrameWords "java/lang/System" "arraycopy" 5 + 11) ≤ R.locals) (hdg : decode cc pc = .ok (.invokestatic index, 3))
    (kk : ∀ (H1 : Heap) (locs1 : List Loc), va_P D cl (ww.set q1 (a, .inl (cA, 8, .inl f))) H1 → va_D A (ww.set q1 (a, .inl (cA, 8, .inl f))) → va_S A H0 H1 locs1 → W p l e R s m args below meth c H1 locs1 cells slots Q (F0 m (pc + 3) ls rest)) : W p l e R s m args below meth c H locs cells slots Q (F0 m pc ls (.int 8 :: .int 0 :: .ref a :: .int 0 :: .ref a0 :: rest)) := by
  refine va_copyi hexec hb hml hown hlink hnat hstat hini hK hP hD hS q0 q1 t0 t0 ha0 ha1 ht ht rfl (by decide) (by decide) (by decide) (by decide) (by decide) (fun i _ => rfl) hframes hlocals hdg (fun H1 locs1 h1 h2 h3 => ?_)
  refine kk H1 locs1 (xP_swap h1 (fun h => ?_)) (xD_swap h2) h3
  have e : vp_cell cA (8, .inl (va_cpy f g (0 : Int32).toNatClampNeg (0 : Int32).toNatClampNeg (8 : Int32).toNatClampNeg)) = vp_cell cA (8, .inl f) := by
    have h9 : (fun j : Fin 8 => Value.int (va_cpy f g 0 0 8 j.val)) = (fun j : Fin 8 => Value.int (f j.val)) := by
      funext j
      rw [pk_cpy_in (Nat.zero_le _) (by have := j.isLt; omega)]
      simp
    show ({ cls := cA, slots := Array.ofFn (n := 8) (fun j => Value.int (va_cpy f g 0 0 8 j.val)), vm := .none } : Cell) = { cls := cA, slots := Array.ofFn (n := 8) (fun j => Value.int (f j.val)), vm := .none }
    rw [h9]
  show H1[a]? = some (vp_cell cA (8, .inl f))
  rw [← e]
  exact h
end XB3
