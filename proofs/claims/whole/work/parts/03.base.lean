/-! Contracts over worlds of cells, each with the same shape; the rows that a program lays refer to these. -/
abbrev TY (cI cZ cO : ClassId) : List (ClassId × FieldType) := [(cI, .int), (cZ, .boolean), (cO, .object "UnlikeRoofs$Image")]
/-- facts of statics and texts that hold while the cells A are not theirs -/
abbrev xGt : Type := (Nat → Prop) → State → Heap → Prop
abbrev xG0 : xGt := fun _ _ _ => True
def xGd (G : xGt) : Prop := (∀ (A : Nat → Prop) (u U : State) (H : Heap), u.vm = U.vm → G A u H → G A U H) ∧ (∀ (A : Nat → Prop) (u U : State) (H : Heap), u.WarmedH U.vm → G A u H → G A U H) ∧ (∀ (A : Nat → Prop) (U : State) (H H1 : Heap), (∀ q : Nat, q < H.size → ¬ A q → H1[q]? = H[q]?) → G A U H → G A U H1) ∧ (∀ (A B : Nat → Prop) (U : State) (H : Heap), (∀ q, B q → A q) → G A U H → G B U H)
theorem xGd0 : xGd xG0 := ⟨fun _ _ _ _ _ _ => trivial, fun _ _ _ _ _ _ => trivial, fun _ _ _ _ _ _ => trivial, fun _ _ _ _ _ _ => trivial⟩
abbrev xPre (D : va_G) (tys : List (ClassId × FieldType)) (G : xGt) (ww : va_W) (sz : Nat) (U : State) : Prop := U.heap.size = sz ∧ va_P D vwCl ww U.heap ∧ va_K D vwCl tys U ∧ va_D (fun _ => True) ww ∧ G (va_A ww sz) U U.heap
abbrev xRm (fr lo : Nat) : Room := { frames := fr, cells := 0, slots := 0, locals := lo }
abbrev xEnd {S : Type} (D : va_G) (tys : List (ClassId × FieldType)) (ww : va_W) (sz : Nat) (w2 : S → va_W) (u : S) (t : State) : Prop := va_P D vwCl (w2 u) t.heap ∧ va_K D vwCl tys t ∧ va_D (va_A ww sz) (w2 u)
def xMi {S : Type} (l : Launch) (y : MethodName) (ws : List Cond) (fr lo : Nat) (D : va_G) (tys : List (ClassId × FieldType)) (G : xGt) (av : List Value) (ww : va_W) (sz : Nat) (post : Int32 → S → Prop) (w2 : S → va_W) : Prop :=
  Met l y ws (xRm fr lo) (va_Pc av (xPre D tys G ww sz)) (va_Qi post (xEnd D tys ww sz w2) (va_A ww sz)) 0 0 (va_A ww sz)
def xMl {S : Type} (l : Launch) (y : MethodName) (ws : List Cond) (fr lo : Nat) (D : va_G) (tys : List (ClassId × FieldType)) (G : xGt) (av : List Value) (ww : va_W) (sz : Nat) (post : Int64 → S → Prop) (w2 : S → va_W) : Prop :=
  Met l y ws (xRm fr lo) (va_Pc av (xPre D tys G ww sz)) (va_Ql post (xEnd D tys ww sz w2) (va_A ww sz)) 0 0 (va_A ww sz)
def xMv {S : Type} (l : Launch) (y : MethodName) (ws : List Cond) (fr lo : Nat) (D : va_G) (tys : List (ClassId × FieldType)) (G : xGt) (av : List Value) (ww : va_W) (sz : Nat) (post : S → Prop) (w2 : S → va_W) : Prop :=
  Met l y ws (xRm fr lo) (va_Pc av (xPre D tys G ww sz)) (va_Qv post (xEnd D tys ww sz w2) (va_A ww sz)) 0 0 (va_A ww sz)
theorem xP_map {D : va_G} {cl : List vw_C} {ws ws' : va_W} {H : Heap} (h : va_P D cl ws H) (is : List Nat) (hs : is.map (fun i => ws[i]?) = ws'.map some) : va_P D cl ws' H := by
  intro k q hk
  have h1 : (is.map (fun i => ws[i]?))[k]? = some (some q) := by rw [hs, List.getElem?_map, hk]; rfl
  rw [List.getElem?_map] at h1
  cases hi : is[k]? with
  | none => rw [hi] at h1; cases h1
  | some i => rw [hi] at h1; exact h i q (Option.some.inj h1)
section XOF
variable {l : Launch} {y : MethodName} {ws ws' : List Cond} {fr lo : Nat} {D : va_G} {tys : List (ClassId × FieldType)} {G : xGt} {av : List Value} {ww : va_W} {sz : Nat} {cc : ByteArray} {maxL : Nat} {rt : FieldType}
theorem xMi.of {S : Type} {post : Int32 → S → Prop} {w2 : S → va_W} (hy : plainName y.cls = true) (hw : ws = Cond.code y cc maxL (some rt) :: ws') (hlen : (lg_sl av).length ≤ maxL)
    (body : ∀ (p : Program) (e : Env) (s : State) (m : MethodId) (below : List Frame) (meth : Method) (c : Code) (A : Nat → Prop) (Q : State → Prop) (H : Heap), p.tables.exec = Jvm.exec → c.code = cc → c.maxLocals = maxL → s.vm.findClass y.cls = some m.cls → (∀ w ∈ ws, w.before av.toArray s = true) → (∀ q : Nat, s.heap.size ≤ q → A q) → va_P D vwCl ww H → va_D A ww → va_K D vwCl tys s → va_S A s.heap H [] → G A s s.heap →
      (∀ (r : Int32) (u : S) (H : Heap) (locs : List Loc) (pc : Nat) (ls : Array Slot), narrow rt (.int r) = .int r → post r u → va_P D vwCl (w2 u) H → va_D A (w2 u) → va_S A s.heap H locs → decode cc pc = .ok (.ireturn, 1) → W p l e (xRm fr lo) s m av.toArray below meth c H locs 0 0 Q (F0 m pc ls [.int r])) →
      ∀ ls : Array Slot, lv_has ls maxL (lv_args 0 av) → W p l e (xRm fr lo) s m av.toArray below meth c H [] 0 0 Q (F0 m 0 ls [])) : xMi l y ws fr lo D tys G av ww sz post w2 := by
  refine Met.ofW (cc := cc) (maxL := maxL) (ret := some rt) hy hw ?_
  intro p e s m args below meth c s₁ B hml hv
  obtain ⟨rfl, hsz, hP, hK, hD0, hG⟩ := hv
  have hts := atoms_spec (ws := ws) B.pre
  have hown := findClass_of_methodNamed B.named
  subst hsz
  have hl := lv_entry av hlen
  rw [lg_entry_eq]
  refine body p e s m below meth c (va_A ww s.heap.size) _ s.heap B.exec B.bytes hml hown hts (fun q h => Or.inr h) hP hD0.self hK va_S.rf hG ?_ _ hl
  intro r u H locs pc ls hn hp hP1 hD1 hS1 hd
  exact W.zret B.exec B.bytes B.returns hn (fun t ht hW => ⟨⟨r, u, rfl, hp, by rw [ht]; exact hP1, va_K.moved hW.alike hK, hD1⟩, hS1.F ht⟩) hS1.2.2 hd B.notSynchronized
theorem xMl.of {S : Type} {post : Int64 → S → Prop} {w2 : S → va_W} (hy : plainName y.cls = true) (hw : ws = Cond.code y cc maxL (some .long) :: ws') (hlen : (lg_sl av).length ≤ maxL)
    (body : ∀ (p : Program) (e : Env) (s : State) (m : MethodId) (below : List Frame) (meth : Method) (c : Code) (A : Nat → Prop) (Q : State → Prop) (H : Heap), p.tables.exec = Jvm.exec → c.code = cc → c.maxLocals = maxL → s.vm.findClass y.cls = some m.cls → (∀ w ∈ ws, w.before av.toArray s = true) → (∀ q : Nat, s.heap.size ≤ q → A q) → va_P D vwCl ww H → va_D A ww → va_K D vwCl tys s → va_S A s.heap H [] → G A s s.heap →
      (∀ (r : Int64) (u : S) (H : Heap) (locs : List Loc) (pc : Nat) (ls : Array Slot), post r u → va_P D vwCl (w2 u) H → va_D A (w2 u) → va_S A s.heap H locs → decode cc pc = .ok (.lreturn, 1) → W p l e (xRm fr lo) s m av.toArray below meth c H locs 0 0 Q (F0 m pc ls [.long r])) →
      ∀ ls : Array Slot, lv_has ls maxL (lv_args 0 av) → W p l e (xRm fr lo) s m av.toArray below meth c H [] 0 0 Q (F0 m 0 ls [])) : xMl l y ws fr lo D tys G av ww sz post w2 := by
  refine Met.ofW (cc := cc) (maxL := maxL) (ret := some .long) hy hw ?_
  intro p e s m args below meth c s₁ B hml hv
  obtain ⟨rfl, hsz, hP, hK, hD0, hG⟩ := hv
  have hts := atoms_spec (ws := ws) B.pre
  have hown := findClass_of_methodNamed B.named
  subst hsz
  have hl := lv_entry av hlen
  rw [lg_entry_eq]
  refine body p e s m below meth c (va_A ww s.heap.size) _ s.heap B.exec B.bytes hml hown hts (fun q h => Or.inr h) hP hD0.self hK va_S.rf hG ?_ _ hl
  intro r u H locs pc ls hp hP1 hD1 hS1 hd
  exact W.lret B.exec B.bytes B.returns (fun t ht hW => ⟨⟨r, u, rfl, hp, by rw [ht]; exact hP1, va_K.moved hW.alike hK, hD1⟩, hS1.F ht⟩) hS1.2.2 hd B.notSynchronized
theorem xMv.of {S : Type} {post : S → Prop} {w2 : S → va_W} (hy : plainName y.cls = true) (hw : ws = Cond.code y cc maxL none :: ws') (hlen : (lg_sl av).length ≤ maxL)
    (body : ∀ (p : Program) (e : Env) (s : State) (m : MethodId) (below : List Frame) (meth : Method) (c : Code) (A : Nat → Prop) (Q : State → Prop) (H : Heap), p.tables.exec = Jvm.exec → c.code = cc → c.maxLocals = maxL → s.vm.findClass y.cls = some m.cls → (∀ w ∈ ws, w.before av.toArray s = true) → (∀ q : Nat, s.heap.size ≤ q → A q) → va_P D vwCl ww H → va_D A ww → va_K D vwCl tys s → va_S A s.heap H [] → G A s s.heap →
      (∀ (u : S) (H : Heap) (locs : List Loc) (pc : Nat) (ls : Array Slot), post u → va_P D vwCl (w2 u) H → va_D A (w2 u) → va_S A s.heap H locs → decode cc pc = .ok (.return_, 1) → W p l e (xRm fr lo) s m av.toArray below meth c H locs 0 0 Q (F0 m pc ls [])) →
      ∀ ls : Array Slot, lv_has ls maxL (lv_args 0 av) → W p l e (xRm fr lo) s m av.toArray below meth c H [] 0 0 Q (F0 m 0 ls [])) : xMv l y ws fr lo D tys G av ww sz post w2 := by
  refine Met.ofW (cc := cc) (maxL := maxL) (ret := none) hy hw ?_
  intro p e s m args below meth c s₁ B hml hv
  obtain ⟨rfl, hsz, hP, hK, hD0, hG⟩ := hv
  have hts := atoms_spec (ws := ws) B.pre
  have hown := findClass_of_methodNamed B.named
  subst hsz
  have hl := lv_entry av hlen
  rw [lg_entry_eq]
  refine body p e s m below meth c (va_A ww s.heap.size) _ s.heap B.exec B.bytes hml hown hts (fun q h => Or.inr h) hP hD0.self hK va_S.rf hG ?_ _ hl
  intro u H locs pc ls hp hP1 hD1 hS1 hd
  exact W.vret B.exec B.bytes B.returns (fun t ht hW => ⟨⟨u, rfl, hp, by rw [ht]; exact hP1, va_K.moved hW.alike hK, hD1⟩, hS1.F ht⟩) hS1.2.2 hd B.notSynchronized
end XOF
theorem xPre_blind {D : va_G} {tys : List (ClassId × FieldType)} {G : xGt} (hGd : xGd G) {ww : va_W} {sz : Nat} {av : List Value} : FrameBlind (va_Pc av (xPre D tys G ww sz)) := by
  intro a U g mk q
  obtain ⟨q0, q1, qP, qK, qD, qG⟩ := q
  exact ⟨q0, q1, qP, va_K.moved (u := U) (U := U.calling g mk a) (Vm.Alike.refl U.vm) qK, qD, hGd.1 _ U (U.calling g mk a) _ rfl qG⟩
section XCALL
variable {p : Program} {l : Launch} {e : Env} {R : Room} {s : State} {m : MethodId} {args : Array Value} {below : List Frame} {meth : Method} {c : Code} {H : Heap} {locs : List Loc} {cells slots : Nat} {Q : State → Prop} {pc : Nat} {ls : Array Slot}
variable {y : MethodName} {ws Ts : List Cond} {fr lo : Nat} {D : va_G} {tys : List (ClassId × FieldType)} {G G0 : xGt} {A : Nat → Prop} {ww wc wr : va_W} {cc bytes : ByteArray} {nL maxL n index ci N : Nat} {own C : String} {ret : Option FieldType} {b : Nat} {As rest st av : List Value} {T : u_T} {fs : List Value}
/-- the callee's part of the world, and what it is given -/
theorem xcut (hGd : xGd G0) (hGG : ∀ (A' : Nat → Prop) (U : State) (H' : Heap), G0 A' U H' → G A' U H') (hG0 : G0 A s s.heap) (hP : va_P D vwCl ww H) (hD : va_D A ww) (hK : va_K D vwCl tys s) (hS : va_S A s.heap H locs) (hA : ∀ q : Nat, s.heap.size ≤ q → A q)
    (isC : List Nat) (hC : isC.map (fun i => ww[i]?) = wc.map some) (hnC : va_nd isC = true) : (∀ q, va_A wc H.size q → A q) ∧ ∀ U : State, U.heap = H → s.WarmedH U.vm → xPre D tys G wc H.size U := by
  have hFc := va_free hD hS hA isC hC
  have hPc : va_P D vwCl wc H := xP_map hP isC hC
  have hDc := hD.sub isC hnC hC
  refine ⟨hFc, fun U hU hW => ⟨by rw [hU], by rw [hU]; exact hPc, va_K.moved hW.alike hK, hDc.weaken (fun _ _ _ _ => trivial), ?_⟩⟩
  rw [hU]
  exact hGG _ _ _ (hGd.2.2.2 A _ U H hFc (hGd.2.1 A s U H hW (hGd.2.2.1 A s s.heap H (fun q h1 h2 => hS.2.1 q h1 h2) hG0)))
theorem xjoin {w2 w3 : va_W} {H1 : Heap} (hP : va_P D vwCl ww H) (hD : va_D A ww) (isC isR perm : List Nat) (hC : isC.map (fun i => ww[i]?) = wc.map some) (hR : isR.map (fun i => ww[i]?) = wr.map some) (hn : va_nd isR = true) (hdis : isR.all (fun i => !(isC.contains i)) = true)
    (hk : ∀ q : Nat, q < H.size → ¬ va_A wc H.size q → H1[q]? = H[q]?) (hF : ∀ q, va_A wc H.size q → A q) (hP1 : va_P D vwCl w2 H1) (hD1 : va_D (va_A wc H.size) w2) (hnp : va_nd perm = true) (hp3 : perm.map (fun i => (wr ++ w2)[i]?) = w3.map some) : va_P D vwCl w3 H1 ∧ va_D A w3 := by
  have hd2 : ∀ i ∈ isR, i ∉ isC := by
    intro i hi hc
    have h1 := List.all_eq_true.mp hdis i hi
    simp [hc] at h1
  obtain ⟨h1, h2⟩ := va_join hP hD isC isR hC hR hn hd2 hk hF hP1 hD1
  exact ⟨xP_map h1 perm hp3, h2.sub perm hnp hp3⟩
theorem xcV_i {S : Type} {post : Int32 → S → Prop} {w2 w3 : S → va_W} (SS : CallFix p m c cc nL s args Ts own) (hM : xMi l y ws fr lo D tys G (.ref b :: As) wc H.size post w2) (cw : CallW R s args own C index y bytes maxL ret ws (xRm fr lo) 0 0 n)
    (hGd : xGd G0) (hGd1 : xGd G) (hGG : ∀ (A' : Nat → Prop) (U : State) (H' : Heap), G0 A' U H' → G A' U H') (hG0 : G0 A s s.heap) (hP : va_P D vwCl ww H) (hD : va_D A ww) (hK : va_K D vwCl tys s) (hS : va_S A s.heap H locs) (hA : ∀ q : Nat, s.heap.size ≤ q → A q)
    (isC isR perm : List Nat) (hC : isC.map (fun i => ww[i]?) = wc.map some) (hnC : va_nd isC = true) (hR : isR.map (fun i => ww[i]?) = wr.map some) (hnR : va_nd isR = true) (hdis : isR.all (fun i => !(isC.contains i)) = true) (q0 : Nat) (he : ww[q0]? = some (b, .inr (ci, fs))) (hc : vwCl[ci]? = some (C, T, N))
    (hnp : va_nd perm = true) (hp3 : ∀ u, perm.map (fun i => (wr ++ w2 u)[i]?) = (w3 u).map some) (hst : st = As.reverse ++ .ref b :: rest) (hn : As.length = n) (hsz : ls.size = nL) (hroom : (rest.map fun v => v.category).sum ≤ 8) (hdg : decode cc pc = .ok (.invokevirtual index, 3)) (hcs : cells ≤ R.cells ∧ slots ≤ R.slots)
    (kk : ∀ (r : Int32) (u : S) (H1 : Heap) (locs1 : List Loc), post r u → va_P D vwCl (w3 u) H1 → va_D A (w3 u) → va_S A s.heap H1 locs1 → W p l e R s m args below meth c H1 locs1 cells slots Q (F0 m (pc + 3) ls (.int r :: rest))) : W p l e R s m args below meth c H locs cells slots Q (F0 m pc ls st) := by
  subst hst
  obtain ⟨hFc, hpre⟩ := xcut hGd hGG hG0 hP hD hK hS hA isC hC hnC
  refine va_calli (va_runV (As := As) (rest := rest) SS hM cw ⟨xPre_blind hGd1, va_recv hK hP hc he, fun U hU hW => ⟨rfl, hpre U hU hW⟩⟩ rfl hn hsz rfl (lv_room hroom) hdg ⟨hcs.1, hcs.2⟩) hS (fun q _ h => hFc q h) hFc (fun r u t H1 locs1 ht hvm hw hB hz1 hk1 hS1 => ?_)
  obtain ⟨hP1, hK1, hD1⟩ := hB
  rw [ht] at hP1
  obtain ⟨hP3, hD3⟩ := xjoin hP hD isC isR perm hC hR hnR hdis hk1 hFc hP1 hD1 hnp (hp3 u)
  exact kk r u H1 locs1 hw hP3 hD3 hS1
theorem xcV_v {S : Type} {post : S → Prop} {w2 w3 : S → va_W} (SS : CallFix p m c cc nL s args Ts own) (hM : xMv l y ws fr lo D tys G (.ref b :: As) wc H.size post w2) (cw : CallW R s args own C index y bytes maxL ret ws (xRm fr lo) 0 0 n)
    (hGd : xGd G0) (hGd1 : xGd G) (hGG : ∀ (A' : Nat → Prop) (U : State) (H' : Heap), G0 A' U H' → G A' U H') (hG0 : G0 A s s.heap) (hP : va_P D vwCl ww H) (hD : va_D A ww) (hK : va_K D vwCl tys s) (hS : va_S A s.heap H locs) (hA : ∀ q : Nat, s.heap.size ≤ q → A q)
    (isC isR perm : List Nat) (hC : isC.map (fun i => ww[i]?) = wc.map some) (hnC : va_nd isC = true) (hR : isR.map (fun i => ww[i]?) = wr.map some) (hnR : va_nd isR = true) (hdis : isR.all (fun i => !(isC.contains i)) = true) (q0 : Nat) (he : ww[q0]? = some (b, .inr (ci, fs))) (hc : vwCl[ci]? = some (C, T, N))
    (hnp : va_nd perm = true) (hp3 : ∀ u, perm.map (fun i => (wr ++ w2 u)[i]?) = (w3 u).map some) (hst : st = As.reverse ++ .ref b :: rest) (hn : As.length = n) (hsz : ls.size = nL) (hroom : (rest.map fun v => v.category).sum ≤ 8) (hdg : decode cc pc = .ok (.invokevirtual index, 3)) (hcs : cells ≤ R.cells ∧ slots ≤ R.slots)
    (kk : ∀ (u : S) (H1 : Heap) (locs1 : List Loc), post u → va_P D vwCl (w3 u) H1 → va_D A (w3 u) → va_S A s.heap H1 locs1 → W p l e R s m args below meth c H1 locs1 cells slots Q (F0 m (pc + 3) ls rest)) : W p l e R s m args below meth c H locs cells slots Q (F0 m pc ls st) := by
  subst hst
  obtain ⟨hFc, hpre⟩ := xcut hGd hGG hG0 hP hD hK hS hA isC hC hnC
  refine va_callv (va_runV (As := As) (rest := rest) SS hM cw ⟨xPre_blind hGd1, va_recv hK hP hc he, fun U hU hW => ⟨rfl, hpre U hU hW⟩⟩ rfl hn hsz rfl (lv_room hroom) hdg ⟨hcs.1, hcs.2⟩) hS (fun q _ h => hFc q h) hFc (fun u t H1 locs1 ht hvm hw hB hz1 hk1 hS1 => ?_)
  obtain ⟨hP1, hK1, hD1⟩ := hB
  rw [ht] at hP1
  obtain ⟨hP3, hD3⟩ := xjoin hP hD isC isR perm hC hR hnR hdis hk1 hFc hP1 hD1 hnp (hp3 u)
  exact kk u H1 locs1 hw hP3 hD3 hS1
theorem xcV_l {S : Type} {post : Int64 → S → Prop} {w2 w3 : S → va_W} (SS : CallFix p m c cc nL s args Ts own) (hM : xMl l y ws fr lo D tys G (.ref b :: As) wc H.size post w2) (cw : CallW R s args own C index y bytes maxL ret ws (xRm fr lo) 0 0 n)
    (hGd : xGd G0) (hGd1 : xGd G) (hGG : ∀ (A' : Nat → Prop) (U : State) (H' : Heap), G0 A' U H' → G A' U H') (hG0 : G0 A s s.heap) (hP : va_P D vwCl ww H) (hD : va_D A ww) (hK : va_K D vwCl tys s) (hS : va_S A s.heap H locs) (hA : ∀ q : Nat, s.heap.size ≤ q → A q)
    (isC isR perm : List Nat) (hC : isC.map (fun i => ww[i]?) = wc.map some) (hnC : va_nd isC = true) (hR : isR.map (fun i => ww[i]?) = wr.map some) (hnR : va_nd isR = true) (hdis : isR.all (fun i => !(isC.contains i)) = true) (q0 : Nat) (he : ww[q0]? = some (b, .inr (ci, fs))) (hc : vwCl[ci]? = some (C, T, N))
    (hnp : va_nd perm = true) (hp3 : ∀ u, perm.map (fun i => (wr ++ w2 u)[i]?) = (w3 u).map some) (hst : st = As.reverse ++ .ref b :: rest) (hn : As.length = n) (hsz : ls.size = nL) (hroom : (rest.map fun v => v.category).sum ≤ 8) (hdg : decode cc pc = .ok (.invokevirtual index, 3)) (hcs : cells ≤ R.cells ∧ slots ≤ R.slots)
    (kk : ∀ (r : Int64) (u : S) (H1 : Heap) (locs1 : List Loc), post r u → va_P D vwCl (w3 u) H1 → va_D A (w3 u) → va_S A s.heap H1 locs1 → W p l e R s m args below meth c H1 locs1 cells slots Q (F0 m (pc + 3) ls (.long r :: rest))) : W p l e R s m args below meth c H locs cells slots Q (F0 m pc ls st) := by
  subst hst
  obtain ⟨hFc, hpre⟩ := xcut hGd hGG hG0 hP hD hK hS hA isC hC hnC
  refine va_calll (va_runV (As := As) (rest := rest) SS hM cw ⟨xPre_blind hGd1, va_recv hK hP hc he, fun U hU hW => ⟨rfl, hpre U hU hW⟩⟩ rfl hn hsz rfl (lv_room hroom) hdg ⟨hcs.1, hcs.2⟩) hS (fun q _ h => hFc q h) hFc (fun r u t H1 locs1 ht hvm hw hB hz1 hk1 hS1 => ?_)
  obtain ⟨hP1, hK1, hD1⟩ := hB
  rw [ht] at hP1
  obtain ⟨hP3, hD3⟩ := xjoin hP hD isC isR perm hC hR hnR hdis hk1 hFc hP1 hD1 hnp (hp3 u)
  exact kk r u H1 locs1 hw hP3 hD3 hS1
theorem xcS_i {S : Type} {post : Int32 → S → Prop} {w2 w3 : S → va_W} (SS : CallFix p m c cc nL s args Ts own) (hM : xMi l y ws fr lo D tys G As wc H.size post w2) (cw : CallB R s args own index y bytes maxL ret ws (xRm fr lo) 0 0 n ∧ (Cond.static y).before args s = true)
    (hGd : xGd G0) (hGd1 : xGd G) (hGG : ∀ (A' : Nat → Prop) (U : State) (H' : Heap), G0 A' U H' → G A' U H') (hG0 : G0 A s s.heap) (hP : va_P D vwCl ww H) (hD : va_D A ww) (hK : va_K D vwCl tys s) (hS : va_S A s.heap H locs) (hA : ∀ q : Nat, s.heap.size ≤ q → A q)
    (isC isR perm : List Nat) (hC : isC.map (fun i => ww[i]?) = wc.map some) (hnC : va_nd isC = true) (hR : isR.map (fun i => ww[i]?) = wr.map some) (hnR : va_nd isR = true) (hdis : isR.all (fun i => !(isC.contains i)) = true)
    (hnp : va_nd perm = true) (hp3 : ∀ u, perm.map (fun i => (wr ++ w2 u)[i]?) = (w3 u).map some) (hst : st = As.reverse ++ rest) (hn : As.length = n) (hsz : ls.size = nL) (hroom : (rest.map fun v => v.category).sum ≤ 8) (hdg : decode cc pc = .ok (.invokestatic index, 3)) (hcs : cells ≤ R.cells ∧ slots ≤ R.slots)
    (kk : ∀ (r : Int32) (u : S) (H1 : Heap) (locs1 : List Loc), post r u → va_P D vwCl (w3 u) H1 → va_D A (w3 u) → va_S A s.heap H1 locs1 → W p l e R s m args below meth c H1 locs1 cells slots Q (F0 m (pc + 3) ls (.int r :: rest))) : W p l e R s m args below meth c H locs cells slots Q (F0 m pc ls st) := by
  subst hst
  obtain ⟨hFc, hpre⟩ := xcut hGd hGG hG0 hP hD hK hS hA isC hC hnC
  refine va_calli (va_runS (As := As) (rest := rest) SS hM cw ⟨xPre_blind hGd1, fun U hU hW => ⟨rfl, hpre U hU hW⟩⟩ rfl hn hsz rfl (lv_room hroom) hdg ⟨hcs.1, hcs.2⟩) hS (fun q _ h => hFc q h) hFc (fun r u t H1 locs1 ht hvm hw hB hz1 hk1 hS1 => ?_)
  obtain ⟨hP1, hK1, hD1⟩ := hB
  rw [ht] at hP1
  obtain ⟨hP3, hD3⟩ := xjoin hP hD isC isR perm hC hR hnR hdis hk1 hFc hP1 hD1 hnp (hp3 u)
  exact kk r u H1 locs1 hw hP3 hD3 hS1
theorem xcS_l {S : Type} {post : Int64 → S → Prop} {w2 w3 : S → va_W} (SS : CallFix p m c cc nL s args Ts own) (hM : xMl l y ws fr lo D tys G As wc H.size post w2) (cw : CallB R s args own index y bytes maxL ret ws (xRm fr lo) 0 0 n ∧ (Cond.static y).before args s = true)
    (hGd : xGd G0) (hGd1 : xGd G) (hGG : ∀ (A' : Nat → Prop) (U : State) (H' : Heap), G0 A' U H' → G A' U H') (hG0 : G0 A s s.heap) (hP : va_P D vwCl ww H) (hD : va_D A ww) (hK : va_K D vwCl tys s) (hS : va_S A s.heap H locs) (hA : ∀ q : Nat, s.heap.size ≤ q → A q)
    (isC isR perm : List Nat) (hC : isC.map (fun i => ww[i]?) = wc.map some) (hnC : va_nd isC = true) (hR : isR.map (fun i => ww[i]?) = wr.map some) (hnR : va_nd isR = true) (hdis : isR.all (fun i => !(isC.contains i)) = true)
    (hnp : va_nd perm = true) (hp3 : ∀ u, perm.map (fun i => (wr ++ w2 u)[i]?) = (w3 u).map some) (hst : st = As.reverse ++ rest) (hn : As.length = n) (hsz : ls.size = nL) (hroom : (rest.map fun v => v.category).sum ≤ 8) (hdg : decode cc pc = .ok (.invokestatic index, 3)) (hcs : cells ≤ R.cells ∧ slots ≤ R.slots)
    (kk : ∀ (r : Int64) (u : S) (H1 : Heap) (locs1 : List Loc), post r u → va_P D vwCl (w3 u) H1 → va_D A (w3 u) → va_S A s.heap H1 locs1 → W p l e R s m args below meth c H1 locs1 cells slots Q (F0 m (pc + 3) ls (.long r :: rest))) : W p l e R s m args below meth c H locs cells slots Q (F0 m pc ls st) := by
  subst hst
  obtain ⟨hFc, hpre⟩ := xcut hGd hGG hG0 hP hD hK hS hA isC hC hnC
  refine va_calll (va_runS (As := As) (rest := rest) SS hM cw ⟨xPre_blind hGd1, fun U hU hW => ⟨rfl, hpre U hU hW⟩⟩ rfl hn hsz rfl (lv_room hroom) hdg ⟨hcs.1, hcs.2⟩) hS (fun q _ h => hFc q h) hFc (fun r u t H1 locs1 ht hvm hw hB hz1 hk1 hS1 => ?_)
  obtain ⟨hP1, hK1, hD1⟩ := hB
  rw [ht] at hP1
  obtain ⟨hP3, hD3⟩ := xjoin hP hD isC isR perm hC hR hnR hdis hk1 hFc hP1 hD1 hnp (hp3 u)
  exact kk r u H1 locs1 hw hP3 hD3 hS1
theorem xcS_v {S : Type} {post : S → Prop} {w2 w3 : S → va_W} (SS : CallFix p m c cc nL s args Ts own) (hM : xMv l y ws fr lo D tys G As wc H.size post w2) (cw : CallB R s args own index y bytes maxL ret ws (xRm fr lo) 0 0 n ∧ (Cond.static y).before args s = true)
    (hGd : xGd G0) (hGd1 : xGd G) (hGG : ∀ (A' : Nat → Prop) (U : State) (H' : Heap), G0 A' U H' → G A' U H') (hG0 : G0 A s s.heap) (hP : va_P D vwCl ww H) (hD : va_D A ww) (hK : va_K D vwCl tys s) (hS : va_S A s.heap H locs) (hA : ∀ q : Nat, s.heap.size ≤ q → A q)
    (isC isR perm : List Nat) (hC : isC.map (fun i => ww[i]?) = wc.map some) (hnC : va_nd isC = true) (hR : isR.map (fun i => ww[i]?) = wr.map some) (hnR : va_nd isR = true) (hdis : isR.all (fun i => !(isC.contains i)) = true)
    (hnp : va_nd perm = true) (hp3 : ∀ u, perm.map (fun i => (wr ++ w2 u)[i]?) = (w3 u).map some) (hst : st = As.reverse ++ rest) (hn : As.length = n) (hsz : ls.size = nL) (hroom : (rest.map fun v => v.category).sum ≤ 8) (hdg : decode cc pc = .ok (.invokestatic index, 3)) (hcs : cells ≤ R.cells ∧ slots ≤ R.slots)
    (kk : ∀ (u : S) (H1 : Heap) (locs1 : List Loc), post u → va_P D vwCl (w3 u) H1 → va_D A (w3 u) → va_S A s.heap H1 locs1 → W p l e R s m args below meth c H1 locs1 cells slots Q (F0 m (pc + 3) ls rest)) : W p l e R s m args below meth c H locs cells slots Q (F0 m pc ls st) := by
  subst hst
  obtain ⟨hFc, hpre⟩ := xcut hGd hGG hG0 hP hD hK hS hA isC hC hnC
  refine va_callv (va_runS (As := As) (rest := rest) SS hM cw ⟨xPre_blind hGd1, fun U hU hW => ⟨rfl, hpre U hU hW⟩⟩ rfl hn hsz rfl (lv_room hroom) hdg ⟨hcs.1, hcs.2⟩) hS (fun q _ h => hFc q h) hFc (fun u t H1 locs1 ht hvm hw hB hz1 hk1 hS1 => ?_)
  obtain ⟨hP1, hK1, hD1⟩ := hB
  rw [ht] at hP1
  obtain ⟨hP3, hD3⟩ := xjoin hP hD isC isR perm hC hR hnR hdis hk1 hFc hP1 hD1 hnp (hp3 u)
  exact kk u H1 locs1 hw hP3 hD3 hS1
/-- a number at the top by another name; an index as a natural number -/
theorem lv_topr {x x' : Int32} (h : x = x') (k : W p l e R s m args below meth c H locs cells slots Q (F0 m pc ls (.int x' :: rest))) : W p l e R s m args below meth c H locs cells slots Q (F0 m pc ls (.int x :: rest)) := h ▸ k
theorem lv_toprl {x x' : Int64} (h : x = x') (k : W p l e R s m args below meth c H locs cells slots Q (F0 m pc ls (.long x' :: rest))) : W p l e R s m args below meth c H locs cells slots Q (F0 m pc ls (.long x :: rest)) := h ▸ k
theorem x_iald {cl : List vw_C} {a : Nat} (hexec : p.tables.exec = Jvm.exec) (hb : c.code = cc) (hK : va_K D cl tys s) (hP : va_P D cl ww H) (q0 t0 : Nat) {cA : ClassId} {n : Nat} {f : Nat → Int32} (ha : ww[q0]? = some (a, .inl (cA, n, .inl f))) (ht : tys[t0]? = some (cA, .int)) {j : Nat} (hj : j < n) (hn : n < 2 ^ 31) (hdg : decode cc pc = .ok (.iaload, 1))
    (kk : W p l e R s m args below meth c H locs cells slots Q (F0 m (pc + 1) ls (.int (f j) :: rest))) : W p l e R s m args below meth c H locs cells slots Q (F0 m pc ls (.int (nI j) :: .ref a :: rest)) := by
  refine va_iald hexec hb hK hP q0 t0 ha ht (vp_in_nI hj hn) hdg ?_
  rw [nI_clamp (Nat.lt_trans hj hn)]
  exact kk
theorem x_iast {cl : List vw_C} {a : Nat} {H0 : Heap} (hexec : p.tables.exec = Jvm.exec) (hb : c.code = cc) (hK : va_K D cl tys s) (hP : va_P D cl ww H) (hD : va_D A ww) (hS : va_S A H0 H locs) (q0 t0 : Nat) {cA : ClassId} {n : Nat} {f : Nat → Int32} (ha : ww[q0]? = some (a, .inl (cA, n, .inl f))) (ht : tys[t0]? = some (cA, .int)) {j : Nat} {x : Int32} (hj : j < n) (hn : n < 2 ^ 31) (hdg : decode cc pc = .ok (.iastore, 1))
    (kk : ∀ (H1 : Heap) (locs1 : List Loc), va_P D cl (ww.set q0 (a, .inl (cA, n, .inl (upd f j x)))) H1 → va_D A (ww.set q0 (a, .inl (cA, n, .inl (upd f j x)))) → va_S A H0 H1 locs1 → W p l e R s m args below meth c H1 locs1 cells slots Q (F0 m (pc + 1) ls rest)) : W p l e R s m args below meth c H locs cells slots Q (F0 m pc ls (.int x :: .int (nI j) :: .ref a :: rest)) := by
  refine va_iast hexec hb hK hP hD hS q0 t0 ha ht (vp_in_nI hj hn) hdg (fun H1 locs1 h1 h2 h3 => ?_)
  rw [nI_clamp (Nat.lt_trans hj hn)] at h1 h2
  exact kk H1 locs1 h1 h2 h3
theorem x_zald {cl : List vw_C} {a : Nat} (hexec : p.tables.exec = Jvm.exec) (hb : c.code = cc) (hK : va_K D cl tys s) (hP : va_P D cl ww H) (q0 t0 : Nat) {cA : ClassId} {n : Nat} {f : Nat → Int32} (ha : ww[q0]? = some (a, .inl (cA, n, .inl f))) (ht : tys[t0]? = some (cA, .boolean)) {j : Nat} (hj : j < n) (hn : n < 2 ^ 31) (hdg : decode cc pc = .ok (.baload, 1))
    (kk : W p l e R s m args below meth c H locs cells slots Q (F0 m (pc + 1) ls (.int (f j) :: rest))) : W p l e R s m args below meth c H locs cells slots Q (F0 m pc ls (.int (nI j) :: .ref a :: rest)) := by
  refine va_zald hexec hb hK hP q0 t0 ha ht (vp_in_nI hj hn) hdg ?_
  rw [nI_clamp (Nat.lt_trans hj hn)]
  exact kk
theorem x_ti {t n : Nat} {f : Nat → Int32} (hexec : p.tables.exec = Jvm.exec) (hb : c.code = cc) (hT : va_T .int t n (fun j => .int (f j)) A s s.heap) (hS : va_S A s.heap H locs) {j : Nat} (hj : j < n) (hn : n < 2 ^ 31) (hdg : decode cc pc = .ok (.iaload, 1))
    (kk : W p l e R s m args below meth c H locs cells slots Q (F0 m (pc + 1) ls (.int (f j) :: rest))) : W p l e R s m args below meth c H locs cells slots Q (F0 m pc ls (.int (nI j) :: .ref t :: rest)) := by
  refine va_ti hexec hb hT hS (vp_in_nI hj hn) (v := .int (f j)) ?_ hdg kk
  show Value.int (f (nI j).toNatClampNeg) = .int (f j)
  rw [nI_clamp (Nat.lt_trans hj hn)]
end XCALL
