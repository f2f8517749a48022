/-! contracts of constructors: they make cells -/
abbrev xRn (fr lo mc ms : Nat) : Room := { frames := fr, cells := mc, slots := ms, locals := lo }
def xNv {S : Type} (l : Launch) (y : MethodName) (ws : List Cond) (fr lo mc ms : Nat) (D : va_G) (tys : List (ClassId × FieldType)) (G : xGt) (av : List Value) (ww : va_W) (sz : Nat) (post : S → Prop) (w2 : S → va_W) : Prop :=
  Met l y ws (xRn fr lo mc ms) (va_Pc av (xPre D tys G ww sz)) (va_Qv post (xEnd D tys ww sz w2) (va_A ww sz)) mc ms (va_A ww sz)
abbrev xGn : xGt := fun _ U _ => (∀ w ∈ nestW, va_Nw w U) ∧ va_AO "UnlikeRoofs$Image" U
theorem xGdn : xGd xGn := by
  refine ⟨fun A u U H hv h => ?_, fun A u U H hW h => ?_, fun A U H H1 hk h => h, fun A B U H hAB h => h⟩
  · have ha : u.vm.Alike U.vm := by rw [hv]; exact Vm.Alike.refl U.vm
    exact ⟨fun w hw => va_Nw.same (nestW_on w hw) hv (h.1 w hw), va_AO.moved ha h.2⟩
  · exact ⟨fun w hw => nestW_warm hW w hw (h.1 w hw), va_AO.moved hW.alike h.2⟩
section XNOF
variable {l : Launch} {y : MethodName} {ws ws' : List Cond} {fr lo mc ms : Nat} {D : va_G} {tys : List (ClassId × FieldType)} {G : xGt} {av : List Value} {ww : va_W} {sz : Nat} {cc : ByteArray} {maxL : Nat}
theorem xNv.of {S : Type} {post : S → Prop} {w2 : S → va_W} (hi : y.name = "<init>") (hy : plainName y.cls = true) (hw : ws = Cond.code y cc maxL none :: ws') (hlen : (lg_sl av).length ≤ maxL)
    (body : ∀ (p : Program) (e : Env) (s : State) (m : MethodId) (below : List Frame) (meth : Method) (c : Code) (A : Nat → Prop) (Q : State → Prop) (H : Heap), p.tables.exec = Jvm.exec → c.code = cc → c.maxLocals = maxL → s.vm.findClass y.cls = some m.cls → (∀ w ∈ ws, w.before av.toArray s = true) → (∀ q : Nat, s.heap.size ≤ q → A q) → va_P D vwCl ww H → va_D A ww → va_K D vwCl tys s → va_S A s.heap H [] → G A s s.heap → meth.name = "<init>" →
      (∀ (u : S) (H : Heap) (locs : List Loc) (pc : Nat) (ls : Array Slot), post u → va_P D vwCl (w2 u) H → va_D A (w2 u) → va_S A s.heap H locs → decode cc pc = .ok (.return_, 1) → W p l e (xRn fr lo mc ms) s m av.toArray below meth c H locs mc ms Q (F0 m pc ls [])) →
      ∀ ls : Array Slot, lv_has ls maxL (lv_args 0 av) → W p l e (xRn fr lo mc ms) s m av.toArray below meth c H [] 0 0 Q (F0 m 0 ls [])) : xNv l y ws fr lo mc ms D tys G av ww sz post w2 := by
  refine Met.ofW (cc := cc) (maxL := maxL) (ret := none) hy hw ?_
  intro p e s m args below meth c s₁ B hml hv
  obtain ⟨rfl, hsz, hP, hK, hD0, hG⟩ := hv
  have hts := atoms_spec (ws := ws) B.pre
  have hown := findClass_of_methodNamed B.named
  have hin : meth.name = "<init>" := (name_of_methodNamed B.named B.method).1.trans hi
  subst hsz
  have hl := lv_entry av hlen
  rw [lg_entry_eq]
  refine body p e s m below meth c (va_A ww s.heap.size) _ s.heap B.exec B.bytes hml hown hts (fun q h => Or.inr h) hP hD0.self hK va_S.rf hG hin ?_ _ hl
  intro u H locs pc ls hp hP1 hD1 hS1 hd
  exact W.vret B.exec B.bytes B.returns (fun t ht hW => ⟨⟨u, rfl, hp, by rw [ht]; exact hP1, va_K.moved hW.alike hK, hD1⟩, hS1.F ht⟩) hS1.2.2 hd B.notSynchronized
end XNOF
section XN
variable {p : Program} {l : Launch} {e : Env} {R : Room} {s : State} {m : MethodId} {args : Array Value} {below : List Frame} {meth : Method} {c : Code} {H H0 : Heap} {locs : List Loc} {cells slots : Nat} {Q : State → Prop} {pc : Nat} {ls : Array Slot}
variable {y : MethodName} {ws Ts : List Cond} {fr lo mc ms : Nat} {D : va_G} {tys : List (ClassId × FieldType)} {G G0 : xGt} {A : Nat → Prop} {ww wc wr : va_W} {cc bytes : ByteArray} {nL maxL n index : Nat} {own host : String} {b : Nat} {As rest st av : List Value} {cl : List vw_C} {cI cZ cO : ClassId}
theorem xcN_v {S : Type} {post : S → Prop} {w2 : S → va_W} (SS : CallFix p m c cc nL s args Ts own) (hM : xNv l y ws fr lo mc ms D tys G (.ref b :: As) wc H.size post w2) (cw : va_CN R s args own index y host bytes maxL none ws (xRn fr lo mc ms) mc ms n ∧ y.name = "<init>" ∧ (Cond.instanceMethod y).before args s = true)
    (hGd : xGd G0) (hGd1 : xGd G) (hGG : ∀ (A' : Nat → Prop) (U : State) (H' : Heap), G0 A' U H' → G A' U H') (hG0 : G0 A s s.heap) (hP : va_P D vwCl ww H) (hD : va_D A ww) (hK : va_K D vwCl tys s) (hS : va_S A s.heap H locs) (hA : ∀ q : Nat, s.heap.size ≤ q → A q)
    (isC isR : List Nat) (hC : isC.map (fun i => ww[i]?) = wc.map some) (hnC : va_nd isC = true) (hR : isR.map (fun i => ww[i]?) = wr.map some) (hnR : va_nd isR = true) (hdis : isR.all (fun i => !(isC.contains i)) = true)
    (hst : st = As.reverse ++ .ref b :: rest) (hn : As.length = n) (hsz : ls.size = nL) (hroom : (rest.map fun v => v.category).sum ≤ 8) (hdg : decode cc pc = .ok (.invokespecial index, 3)) (hcs : cells + mc ≤ R.cells ∧ slots + ms ≤ R.slots)
    (kk : ∀ (u : S) (H1 : Heap) (locs1 : List Loc), post u → va_P D vwCl (wr ++ w2 u) H1 → va_D A (wr ++ w2 u) → va_S A s.heap H1 locs1 → W p l e R s m args below meth c H1 locs1 (cells + mc) (slots + ms) Q (F0 m (pc + 3) ls rest)) : W p l e R s m args below meth c H locs cells slots Q (F0 m pc ls st) := by
  subst hst
  obtain ⟨hFc, hpre⟩ := xcut hGd hGG hG0 hP hD hK hS hA isC hC hnC
  refine va_callv (va_runIN (As := As) (rest := rest) SS hM cw ⟨xPre_blind hGd1, fun U hU hW => ⟨rfl, hpre U hU hW⟩⟩ rfl hn hsz rfl (lv_room hroom) hdg ⟨hcs.1, hcs.2⟩) hS (fun q _ h => hFc q h) hFc (fun u t H1 locs1 ht hvm hw hB hz1 hk1 hS1 => ?_)
  obtain ⟨hP1, hK1, hD1⟩ := hB
  rw [ht] at hP1
  have hd2 : ∀ i ∈ isR, i ∉ isC := by
    intro i hi hc
    have h1 := List.all_eq_true.mp hdis i hi
    simp [hc] at h1
  obtain ⟨hP3, hD3⟩ := va_join hP hD isC isR hC hR hnR hd2 hk1 hFc hP1 hD1
  exact kk u H1 locs1 hw hP3 hD3 hS1
theorem xcI_v {S : Type} {post : S → Prop} {w2 : S → va_W} (SS : CallFix p m c cc nL s args Ts own) (hM : xNv l y ws fr lo mc ms D tys G (.ref b :: As) wc H.size post w2) (cw : CallB R s args own index y bytes maxL none ws (xRn fr lo mc ms) mc ms n ∧ y.name = "<init>" ∧ (Cond.instanceMethod y).before args s = true)
    (hGd : xGd G0) (hGd1 : xGd G) (hGG : ∀ (A' : Nat → Prop) (U : State) (H' : Heap), G0 A' U H' → G A' U H') (hG0 : G0 A s s.heap) (hP : va_P D vwCl ww H) (hD : va_D A ww) (hK : va_K D vwCl tys s) (hS : va_S A s.heap H locs) (hA : ∀ q : Nat, s.heap.size ≤ q → A q)
    (isC isR : List Nat) (hC : isC.map (fun i => ww[i]?) = wc.map some) (hnC : va_nd isC = true) (hR : isR.map (fun i => ww[i]?) = wr.map some) (hnR : va_nd isR = true) (hdis : isR.all (fun i => !(isC.contains i)) = true)
    (hst : st = As.reverse ++ .ref b :: rest) (hn : As.length = n) (hsz : ls.size = nL) (hroom : (rest.map fun v => v.category).sum ≤ 8) (hdg : decode cc pc = .ok (.invokespecial index, 3)) (hcs : cells + mc ≤ R.cells ∧ slots + ms ≤ R.slots)
    (kk : ∀ (u : S) (H1 : Heap) (locs1 : List Loc), post u → va_P D vwCl (wr ++ w2 u) H1 → va_D A (wr ++ w2 u) → va_S A s.heap H1 locs1 → W p l e R s m args below meth c H1 locs1 (cells + mc) (slots + ms) Q (F0 m (pc + 3) ls rest)) : W p l e R s m args below meth c H locs cells slots Q (F0 m pc ls st) := by
  subst hst
  obtain ⟨hFc, hpre⟩ := xcut hGd hGG hG0 hP hD hK hS hA isC hC hnC
  refine va_callv (va_runI (As := As) (rest := rest) SS hM cw ⟨xPre_blind hGd1, fun U hU hW => ⟨rfl, hpre U hU hW⟩⟩ rfl hn hsz rfl (lv_room hroom) hdg ⟨hcs.1, hcs.2⟩) hS (fun q _ h => hFc q h) hFc (fun u t H1 locs1 ht hvm hw hB hz1 hk1 hS1 => ?_)
  obtain ⟨hP1, hK1, hD1⟩ := hB
  rw [ht] at hP1
  have hd2 : ∀ i ∈ isR, i ∉ isC := by
    intro i hi hc
    have h1 := List.all_eq_true.mp hdis i hi
    simp [hc] at h1
  obtain ⟨hP3, hD3⟩ := va_join hP hD isC isR hC hR hnR hd2 hk1 hFc hP1 hD1
  exact kk u H1 locs1 hw hP3 hD3 hS1
/-- new rows: of ints, of booleans, of images; their classes are the ones that the world has -/
theorem x_newI (hexec : p.tables.exec = Jvm.exec) (hb : c.code = cc) (harr : (Cond.arrayClass .int).before args s = true) (hK : va_K D cl (TY cI cZ cO) s) (hP : va_P D cl ww H) (hD : va_D A ww) (hS : va_S A H0 H locs) (hA : ∀ q, H0.size ≤ q → A q)
    {N' : Int32} {N : Nat} (hn : ¬ N' < 0) (hN : N'.toNatClampNeg = N) (hbytes : N * componentBytes .int ≤ 536870912) (hcells : cells + 1 ≤ R.cells) (hslots : slots + N ≤ R.slots) (hdg : decode cc pc = .ok (.newarray .int, 2))
    (kk : ∀ (q : Nat) (H1 : Heap), va_P D cl (ww ++ [(q, .inl (cI, N, .inl (fun _ => 0)))]) H1 → va_D A (ww ++ [(q, .inl (cI, N, .inl (fun _ => 0)))]) → va_S A H0 H1 locs →
      W p l e R s m args below meth c H1 locs (cells + 1) (slots + N) Q (F0 m (pc + 2) ls (.ref q :: rest))) : W p l e R s m args below meth c H locs cells slots Q (F0 m pc ls (.int N' :: rest)) := by
  refine va_newa (atype := .int) hexec hb harr rfl hK hP hD hS hA (a0 := (N, .inl (fun _ => 0))) (fun cA => rfl) hn hN hbytes hcells hslots hdg (fun q cA H1 hK1 hP1 hD1 hS1 => ?_)
  have h1 : s.vm.findClass ("[" ++ FieldType.int.toString) = some cA := (hK1.2 3 (cA, .int) rfl).2
  have h2 : s.vm.findClass ("[" ++ FieldType.int.toString) = some cI := (hK.2 0 (cI, .int) rfl).2
  obtain rfl : cA = cI := Option.some.inj (h1.symm.trans h2)
  exact kk q H1 hP1 hD1 hS1
theorem x_newZ (hexec : p.tables.exec = Jvm.exec) (hb : c.code = cc) (harr : (Cond.arrayClass .boolean).before args s = true) (hK : va_K D cl (TY cI cZ cO) s) (hP : va_P D cl ww H) (hD : va_D A ww) (hS : va_S A H0 H locs) (hA : ∀ q, H0.size ≤ q → A q)
    {N' : Int32} {N : Nat} (hn : ¬ N' < 0) (hN : N'.toNatClampNeg = N) (hbytes : N * componentBytes .boolean ≤ 536870912) (hcells : cells + 1 ≤ R.cells) (hslots : slots + N ≤ R.slots) (hdg : decode cc pc = .ok (.newarray .boolean, 2))
    (kk : ∀ (q : Nat) (H1 : Heap), va_P D cl (ww ++ [(q, .inl (cZ, N, .inl (fun _ => 0)))]) H1 → va_D A (ww ++ [(q, .inl (cZ, N, .inl (fun _ => 0)))]) → va_S A H0 H1 locs →
      W p l e R s m args below meth c H1 locs (cells + 1) (slots + N) Q (F0 m (pc + 2) ls (.ref q :: rest))) : W p l e R s m args below meth c H locs cells slots Q (F0 m pc ls (.int N' :: rest)) := by
  refine va_newa (atype := .boolean) hexec hb harr rfl hK hP hD hS hA (a0 := (N, .inl (fun _ => 0))) (fun cA => rfl) hn hN hbytes hcells hslots hdg (fun q cA H1 hK1 hP1 hD1 hS1 => ?_)
  have h1 : s.vm.findClass ("[" ++ FieldType.boolean.toString) = some cA := (hK1.2 3 (cA, .boolean) rfl).2
  have h2 : s.vm.findClass ("[" ++ FieldType.boolean.toString) = some cZ := (hK.2 1 (cZ, .boolean) rfl).2
  obtain rfl : cA = cZ := Option.some.inj (h1.symm.trans h2)
  exact kk q H1 hP1 hD1 hS1
theorem x_newO (hexec : p.tables.exec = Jvm.exec) (hb : c.code = cc) {own : String} {index : Nat} (hown : s.vm.findClass own = some m.cls) (hclink : (Cond.classLink own index "UnlikeRoofs$Image").before args s = true) (hover : va_AO "UnlikeRoofs$Image" s) (hK : va_K D cl (TY cI cZ cO) s) (hP : va_P D cl ww H) (hD : va_D A ww) (hS : va_S A H0 H locs) (hA : ∀ q, H0.size ≤ q → A q)
    {N' : Int32} {N : Nat} (hn : ¬ N' < 0) (hN : N'.toNatClampNeg = N) (hbytes : N * 4 ≤ 536870912) (hcells : cells + 1 ≤ R.cells) (hslots : slots + N ≤ R.slots) (hdg : decode cc pc = .ok (.anewarray index, 3))
    (kk : ∀ (q : Nat) (H1 : Heap), va_P D cl (ww ++ [(q, .inl (cO, N, .inr (.inr (.inr (.inr (fun _ => none))))))]) H1 → va_D A (ww ++ [(q, .inl (cO, N, .inr (.inr (.inr (.inr (fun _ => none))))))]) → va_S A H0 H1 locs →
      W p l e R s m args below meth c H1 locs (cells + 1) (slots + N) Q (F0 m (pc + 3) ls (.ref q :: rest))) : W p l e R s m args below meth c H locs cells slots Q (F0 m pc ls (.int N' :: rest)) := by
  refine va_newq hexec hb hown hclink hover hK hP hD hS hA hn hN hbytes hcells hslots hdg (fun q cA H1 hK1 hP1 hD1 hS1 => ?_)
  obtain ⟨k1, k2, k3, k4, k5, h1⟩ := (hK1.2 3 (cA, .object "UnlikeRoofs$Image") rfl).2
  obtain ⟨j1, j2, j3, j4, j5, h2⟩ := (hK.2 2 (cO, .object "UnlikeRoofs$Image") rfl).2
  obtain rfl : cA = cO := Option.some.inj (h1.symm.trans h2)
  exact kk q H1 hP1 hD1 hS1
theorem x_aast (hexec : p.tables.exec = Jvm.exec) (hb : c.code = cc) (hK : va_K D cl tys s) (hP : va_P D cl ww H) (hD : va_D A ww) (hS : va_S A H0 H locs) (q0 t0 qk ci : Nat) {cA : ClassId} {r : vw_C} {n v a : Nat} {vs : List Value} {f : Nat → Option Nat} (ha : ww[q0]? = some (a, .inl (cA, n, .inr (.inr (.inr (.inr f)))))) (ht : tys[t0]? = some (cA, .object r.1)) (hv : ww[qk]? = some (v, .inr (ci, vs))) (hc : cl[ci]? = some r) {j : Nat} (hj : j < n) (hn : n < 2 ^ 31) (hdg : decode cc pc = .ok (.aastore, 1))
    (kk : ∀ (H1 : Heap) (locs1 : List Loc), va_P D cl (ww.set q0 (a, .inl (cA, n, .inr (.inr (.inr (.inr (va_up f j (some v)))))))) H1 → va_D A (ww.set q0 (a, .inl (cA, n, .inr (.inr (.inr (.inr (va_up f j (some v)))))))) → va_S A H0 H1 locs1 → W p l e R s m args below meth c H1 locs1 cells slots Q (F0 m (pc + 1) ls rest)) : W p l e R s m args below meth c H locs cells slots Q (F0 m pc ls (.ref v :: .int (nI j) :: .ref a :: rest)) := by
  refine va_astq hexec hb hK hP hD hS q0 t0 qk ci ha ht hv hc (vp_in_nI hj hn) hdg (fun H1 locs1 h1 h2 h3 => ?_)
  rw [nI_clamp (Nat.lt_trans hj hn)] at h1 h2
  exact kk H1 locs1 h1 h2 h3
end XN
theorem gimg {cO : ClassId} {a b : Nat} : vp_cell cO (2, .inr (.inr (.inr (.inr (va_up (va_up (fun _ => none) 0 (some a)) 1 (some b)))))) = vp_cell cO (2, .inr (.inr (.inr (.inr (fun j => if j = 0 then some a else some b))))) := by
  rw [vp_cell_q, vp_cell_q]
  unfold arrV
  congr 1
theorem x_gimg {D : va_G} {cl : List vw_C} {ww : va_W} {H : Heap} {A : Nat → Prop} {cO : ClassId} {a b : Nat} (hP : va_P D cl ww H) (hD : va_D A ww) (k g : Nat) (h : ww[k]? = some (g, .inl (cO, 2, .inr (.inr (.inr (.inr (va_up (va_up (fun _ => none) 0 (some a)) 1 (some b)))))))) : va_P D cl (ww.set k (g, .inl (cO, 2, .inr (.inr (.inr (.inr (fun j => if j = 0 then some a else some b))))))) H ∧ va_D A (ww.set k (g, .inl (cO, 2, .inr (.inr (.inr (.inr (fun j => if j = 0 then some a else some b))))))) := by
  have hk : k < ww.length := (List.getElem?_eq_some_iff.mp h).1
  refine ⟨fun k' q hk' => ?_, hD.set h⟩
  by_cases e : k = k'
  · subst e
    rw [List.getElem?_set_self hk] at hk'
    cases hk'
    have h2 : H[g]? = some (vp_cell cO (2, .inr (.inr (.inr (.inr (va_up (va_up (fun _ => none) 0 (some a)) 1 (some b))))))) := hP k _ h
    show H[g]? = some (vp_cell cO (2, .inr (.inr (.inr (.inr (fun j => if j = 0 then some a else some b))))))
    rw [← gimg]; exact h2
  · rw [List.getElem?_set_ne e] at hk'
    exact hP k' q hk'
