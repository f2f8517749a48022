/-! texts of the program: their lengths and letters -/
section XST
variable {p : Program} {l : Launch} {e : Env} {R : Room} {s : State} {m : MethodId} {args : Array Value} {below : List Frame} {meth : Method} {c : Code} {H : Heap} {locs : List Loc} {cells slots : Nat} {Q : State → Prop} {pc : Nat} {ls : Array Slot}
variable {y : MethodName} {ws Ts : List Cond} {fr lo : Nat} {D : va_G} {tys : List (ClassId × FieldType)} {G G0 : xGt} {A : Nat → Prop} {ww wc wr : va_W} {cc bytes : ByteArray} {nL maxL n index ci N : Nat} {own C : String} {ret : Option FieldType} {b : Nat} {As rest st av : List Value} {T : u_T} {fs : List Value}
theorem xcT_i {S : Type} {post : Int32 → S → Prop} {w2 w3 : S → va_W} (SS : CallFix p m c cc nL s args Ts own) (hM : xMi l y ws fr lo D tys G (.ref b :: As) wc H.size post w2) (cw : CallW R s args own C index y bytes maxL ret ws (xRm fr lo) 0 0 n)
    (hGd : xGd G0) (hGd1 : xGd G) (hGG : ∀ (A' : Nat → Prop) (U : State) (H' : Heap), G0 A' U H' → G A' U H') (hG0 : G0 A s s.heap) (hP : va_P D vwCl ww H) (hD : va_D A ww) (hK : va_K D vwCl tys s) (hS : va_S A s.heap H locs) (hA : ∀ q : Nat, s.heap.size ≤ q → A q)
    (isC isR perm : List Nat) (hC : isC.map (fun i => ww[i]?) = wc.map some) (hnC : va_nd isC = true) (hR : isR.map (fun i => ww[i]?) = wr.map some) (hnR : va_nd isR = true) (hdis : isR.all (fun i => !(isC.contains i)) = true) (hrv : ∃ cell : Cell, H[b]? = some cell ∧ cell.vm.isStatics = false ∧ s.vm.findClass C = some cell.cls)
    (hnp : va_nd perm = true) (hp3 : ∀ u, perm.map (fun i => (wr ++ w2 u)[i]?) = (w3 u).map some) (hst : st = As.reverse ++ .ref b :: rest) (hn : As.length = n) (hsz : ls.size = nL) (hroom : (rest.map fun v => v.category).sum ≤ 8) (hdg : decode cc pc = .ok (.invokevirtual index, 3)) (hcs : cells ≤ R.cells ∧ slots ≤ R.slots)
    (kk : ∀ (r : Int32) (u : S) (H1 : Heap) (locs1 : List Loc), post r u → va_P D vwCl (w3 u) H1 → va_D A (w3 u) → va_S A s.heap H1 locs1 → W p l e R s m args below meth c H1 locs1 cells slots Q (F0 m (pc + 3) ls (.int r :: rest))) : W p l e R s m args below meth c H locs cells slots Q (F0 m pc ls st) := by
  subst hst
  obtain ⟨hFc, hpre⟩ := xcut hGd hGG hG0 hP hD hK hS hA isC hC hnC
  refine va_calli (va_runV (As := As) (rest := rest) SS hM cw ⟨xPre_blind hGd1, hrv, fun U hU hW => ⟨rfl, hpre U hU hW⟩⟩ rfl hn hsz rfl (lv_room hroom) hdg ⟨hcs.1, hcs.2⟩) hS (fun q _ h => hFc q h) hFc (fun r u t H1 locs1 ht hvm hw hB hz1 hk1 hS1 => ?_)
  obtain ⟨hP1, hK1, hD1⟩ := hB
  rw [ht] at hP1
  obtain ⟨hP3, hD3⟩ := xjoin hP hD isC isR perm hC hR hnR hdis hk1 hFc hP1 hD1 hnp (hp3 u)
  exact kk r u H1 locs1 hw hP3 hD3 hS1
theorem x_tb {t n : Nat} {f : Nat → Int32} (hexec : p.tables.exec = Jvm.exec) (hb : c.code = cc) (hT : va_T .byte t n (fun j => .int (f j)) A s s.heap) (hS : va_S A s.heap H locs) {j : Nat} (hj : j < n) (hn : n < 2 ^ 31) (hdg : decode cc pc = .ok (.baload, 1))
    (kk : W p l e R s m args below meth c H locs cells slots Q (F0 m (pc + 1) ls (.int (f j) :: rest))) : W p l e R s m args below meth c H locs cells slots Q (F0 m pc ls (.int (nI j) :: .ref t :: rest)) := by
  refine va_tb hexec hb hT hS (vp_in_nI hj hn) (v := .int (f j)) ?_ hdg kk
  show Value.int (f (nI j).toNatClampNeg) = .int (f j)
  rw [nI_clamp (Nat.lt_trans hj hn)]
end XST
def wlN (i : Nat) : Nat := wLen.getD i 0
def wbI (i j : Nat) : Int32 := (wByt.getD i []).getD j 0
theorem wl_le : ∀ i : Fin 10, wlN i.val ≤ 5 := by decide +kernel
theorem wl_5 {i : Nat} (h : i < 10) : wlN i ≤ 5 := wl_le ⟨i, h⟩
theorem wl_all : ∀ i : Fin 10, ((nI (wlN i.val)) >>> ((0 : Int32) &&& 31)) = nI (wlN i.val) := by decide +kernel
theorem wb_all : ∀ i : Fin 10, ∀ j : Fin 5, j.val < wlN i.val → ((wbI i.val j.val) &&& 255) = wbI i.val j.val ∧ ((wbI i.val j.val).toUInt32 % 65536).toInt32 = wbI i.val j.val := by decide +kernel
theorem wb_and {i j : Nat} (hi : i < 10) (hj : j < wlN i) : ((wbI i j) &&& 255) = wbI i j ∧ ((wbI i j).toUInt32 % 65536).toInt32 = wbI i j := wb_all ⟨i, hi⟩ ⟨j, by have := wl_5 hi; omega⟩ hj
theorem wb_nar {i j : Nat} (hi : i < 10) (hj : j < wlN i) : narrow .char (.int (wbI i j)) = .int (wbI i j) := congrArg Value.int (wb_and hi hj).2
