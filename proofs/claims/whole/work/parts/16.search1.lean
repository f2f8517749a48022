set_option maxHeartbeats 4000000 in
set_option maxRecDepth 100000 in
theorem c_X4_prepare (l : Launch) (D : va_G) (cI cZ cO : ClassId) (sz : Nat) (gR : Nat) (gD : Nat) (gK : Nat → Nat) (gV : Nat → Nat) (e0 : Nat) (e1 : Nat) (e2 : Nat) (e3 : Nat) (e4 : Nat) (e5 : Nat) (e6 : Nat) (ns : Nat) (ks : Nat) (LL : Nat) (NE : Nat → Nat) (AL : Nat → Nat) (PI : Nat → Nat) (BE : Nat → Nat) (CO : Nat → Nat) (AH : Nat → Nat) (o0 : Nat) (o1 : Nat) (o2 : Nat) (o3 : Nat) (o4 : Nat) (o5 : Nat) (o6 : Nat) (xs : Nat → Int32) (ys : Nat → Int32) (rf : Nat → Int32) (bo : Nat → Int32) (pr : Nat → Int32) (bu : Nat → Int32) (n : Nat) (k : Nat) (wd : Int32) (wt : Bool) (sp : Int32) (hn : n ≤ 8) (hk : k ≤ 4) (hbo : ∀ h, h < n → bo h = (-9) ∨ ∃ v, v < k ∧ bo h = nI v) : xMv l yX4_prepare wsX4_prepare (3) (69) D (TY cI cZ cO) (xGc gR gD gK gV) [.ref e0, .ref o0, .int sp] [(e0, .inr (3, [.ref e1, .ref e2, .ref e3, .ref e4, .ref e5, .ref e6, .int (nI ns), .int (nI ks), .int (nI LL)])), (e1, .inl (cI, 8, .inl (rI NE))), (e2, .inl (cI, 8, .inl (rI AL))), (e3, .inl (cI, 8, .inl (rI PI))), (e4, .inl (cI, 8, .inl (rI BE))), (e5, .inl (cI, 32, .inl (rI CO))), (e6, .inl (cI, 9, .inl (rI AH))), (o0, .inr (7, [.ref o1, .ref o2, .ref o3, .ref o4, .ref o5, .ref o6, .int (nI n), .int (nI k), .int wd, .int (bb wt)])), (o1, .inl (cI, 8, .inl xs)), (o2, .inl (cI, 8, .inl ys)), (o3, .inl (cI, 8, .inl rf)), (o4, .inl (cI, 8, .inl bo)), (o5, .inl (cI, 4, .inl pr)), (o6, .inl (cI, 4, .inl bu))] sz (fun (u : (Nat → Nat) × (Nat → Nat) × (Nat → Nat)) => ((∀ h, h < n → (u.1) h = mkM (fun g => nearb xs ys h sp g) n) ∧ (∀ h, h < n → (u.2.1) h = alN bo k h) ∧ ∀ j, j < 32 → (u.2.2) j = 0)) (fun (u : (Nat → Nat) × (Nat → Nat) × (Nat → Nat)) => [(e0, .inr (3, [.ref e1, .ref e2, .ref e3, .ref e4, .ref e5, .ref e6, .int (nI n), .int (nI k), .int (nI LL)])), (e1, .inl (cI, 8, .inl (rI (u.1)))), (e2, .inl (cI, 8, .inl (rI (u.2.1)))), (e3, .inl (cI, 8, .inl (rI PI))), (e4, .inl (cI, 8, .inl (rI BE))), (e5, .inl (cI, 32, .inl (rI (u.2.2)))), (e6, .inl (cI, 9, .inl (rI AH))), (o0, .inr (7, [.ref o1, .ref o2, .ref o3, .ref o4, .ref o5, .ref o6, .int (nI n), .int (nI k), .int wd, .int (bb wt)])), (o1, .inl (cI, 8, .inl xs)), (o2, .inl (cI, 8, .inl ys)), (o3, .inl (cI, 8, .inl rf)), (o4, .inl (cI, 8, .inl bo)), (o5, .inl (cI, 4, .inl pr)), (o6, .inl (cI, 4, .inl bu))]) := by
  refine xMv.of (cc := cX4_prepare) (maxL := 4) (by decide +kernel) rfl (Nat.le_of_ble_eq_true rfl) ?_
  intro p e s m below meth c A Q H hx hb hml hown hts hA hP hD hK hS hG hret ls hl
  have hown : s.vm.findClass RX4 = some m.cls := hown
  have hP : va_P D vwCl [(e0, .inr (3, [.ref e1, .ref e2, .ref e3, .ref e4, .ref e5, .ref e6, .int (nI ns), .int (nI ks), .int (nI LL)])), (e1, .inl (cI, 8, .inl (rI NE))), (e2, .inl (cI, 8, .inl (rI AL))), (e3, .inl (cI, 8, .inl (rI PI))), (e4, .inl (cI, 8, .inl (rI BE))), (e5, .inl (cI, 32, .inl (rI CO))), (e6, .inl (cI, 9, .inl (rI AH))), (o0, .inr (7, [.ref o1, .ref o2, .ref o3, .ref o4, .ref o5, .ref o6, .int (nI n), .int (nI k), .int wd, .int (bb wt)])), (o1, .inl (cI, 8, .inl xs)), (o2, .inl (cI, 8, .inl ys)), (o3, .inl (cI, 8, .inl rf)), (o4, .inl (cI, 8, .inl bo)), (o5, .inl (cI, 4, .inl pr)), (o6, .inl (cI, 4, .inl bu))] H := hP
  have hD : va_D A [(e0, .inr (3, [.ref e1, .ref e2, .ref e3, .ref e4, .ref e5, .ref e6, .int (nI ns), .int (nI ks), .int (nI LL)])), (e1, .inl (cI, 8, .inl (rI NE))), (e2, .inl (cI, 8, .inl (rI AL))), (e3, .inl (cI, 8, .inl (rI PI))), (e4, .inl (cI, 8, .inl (rI BE))), (e5, .inl (cI, 32, .inl (rI CO))), (e6, .inl (cI, 9, .inl (rI AH))), (o0, .inr (7, [.ref o1, .ref o2, .ref o3, .ref o4, .ref o5, .ref o6, .int (nI n), .int (nI k), .int wd, .int (bb wt)])), (o1, .inl (cI, 8, .inl xs)), (o2, .inl (cI, 8, .inl ys)), (o3, .inl (cI, 8, .inl rf)), (o4, .inl (cI, 8, .inl bo)), (o5, .inl (cI, 4, .inl pr)), (o6, .inl (cI, 4, .inl bu))] := hD
  have hl : lv_has ls 4 [(0, .ref e0), (1, .ref o0), (2, .int sp)] := hl
  have w_0 := hts (.fieldLink RX4 36 "UnlikeRoofs$Search" "houses" "I") (List.mem_of_getElem? (i := 1) (by rfl))
  have w_1 := hts (.fieldLink RX4 40 "UnlikeRoofs$Search" "sorts" "I") (List.mem_of_getElem? (i := 2) (by rfl))
  have w_2 := hts (.fieldLink RX4 24 "UnlikeRoofs$Search" "costs" "[I") (List.mem_of_getElem? (i := 5) (by rfl))
  have w_3 := hts (.fieldLink RX4 9 "UnlikeRoofs$Search" "near" "[I") (List.mem_of_getElem? (i := 3) (by rfl))
  have w_4 := hts (.fieldLink RX4 15 "UnlikeRoofs$Search" "allowed" "[I") (List.mem_of_getElem? (i := 4) (by rfl))
  have wn_0 : (Cond.fieldLinkNest RX4 30 "UnlikeRoofs$Town" "houses" "I" "UnlikeRoofs").before ([.ref e0, .ref o0, .int sp] : List Value).toArray s = true := va_Nw.use rfl (hG.1 (.fieldLinkNest RX4 30 "UnlikeRoofs$Town" "houses" "I" "UnlikeRoofs") (List.mem_of_getElem? (i := 20) (by rfl)))
  have wn_1 : (Cond.fieldLinkNest RX4 37 "UnlikeRoofs$Town" "sorts" "I" "UnlikeRoofs").before ([.ref e0, .ref o0, .int sp] : List Value).toArray s = true := va_Nw.use rfl (hG.1 (.fieldLinkNest RX4 37 "UnlikeRoofs$Town" "sorts" "I" "UnlikeRoofs") (List.mem_of_getElem? (i := 23) (by rfl)))
  have wn_2 : (Cond.fieldLinkNest RX4 44 "UnlikeRoofs$Town" "bounds" "[I" "UnlikeRoofs").before ([.ref e0, .ref o0, .int sp] : List Value).toArray s = true := va_Nw.use rfl (hG.1 (.fieldLinkNest RX4 44 "UnlikeRoofs$Town" "bounds" "[I" "UnlikeRoofs") (List.mem_of_getElem? (i := 17) (by rfl)))
  have hin_X4 : ∀ w ∈ wsX40, w ∈ wsX4_prepare := fun _ h => List.mem_cons_of_mem _ (List.mem_append_right _ h)
  have hin_X8 : ∀ w ∈ wsX80, w ∈ wsX4_prepare := fun _ h => List.mem_cons_of_mem _ (List.mem_append_left _ (List.mem_append_right _ h))
  have _h0 : True := trivial
  refine lv_aload_n hx hb dX4_prepare_0 rfl (lv_at hl 0 rfl) ?_
  refine lv_aload_n hx hb dX4_prepare_1 rfl (lv_at hl 1 rfl) ?_
  refine va_getN (D := D) (ci := 7) (v := .int (nI n)) (C := RX8) (T := TX8) (N := 10) hx hb hts hin_X8 hown hK hP 7 rfl rfl 6 (by decide) wn_0 (fun _ h9 => h9) rfl dX4_prepare_2 ?_
  refine va_put (D := D) (ci := 3) (v := .int (nI n)) (ty := .int) (C := RX4) (T := TX4) (N := 9) hx hb hts hin_X4 tyX4 tyX4_ok nmX4 hown hK hP hD hS 0 rfl rfl 6 (by decide) w_0 (fun _ h9 => h9) rfl (by decide +kernel) rfl rfl (Nat.le_of_ble_eq_true rfl) dX4_prepare_5 (fun H locs hP hD hS => ?_)
  have hP : va_P D vwCl [(e0, .inr (3, [.ref e1, .ref e2, .ref e3, .ref e4, .ref e5, .ref e6, .int (nI n), .int (nI ks), .int (nI LL)])), (e1, .inl (cI, 8, .inl (rI NE))), (e2, .inl (cI, 8, .inl (rI AL))), (e3, .inl (cI, 8, .inl (rI PI))), (e4, .inl (cI, 8, .inl (rI BE))), (e5, .inl (cI, 32, .inl (rI CO))), (e6, .inl (cI, 9, .inl (rI AH))), (o0, .inr (7, [.ref o1, .ref o2, .ref o3, .ref o4, .ref o5, .ref o6, .int (nI n), .int (nI k), .int wd, .int (bb wt)])), (o1, .inl (cI, 8, .inl xs)), (o2, .inl (cI, 8, .inl ys)), (o3, .inl (cI, 8, .inl rf)), (o4, .inl (cI, 8, .inl bo)), (o5, .inl (cI, 4, .inl pr)), (o6, .inl (cI, 4, .inl bu))] H := hP
  have hD : va_D A [(e0, .inr (3, [.ref e1, .ref e2, .ref e3, .ref e4, .ref e5, .ref e6, .int (nI n), .int (nI ks), .int (nI LL)])), (e1, .inl (cI, 8, .inl (rI NE))), (e2, .inl (cI, 8, .inl (rI AL))), (e3, .inl (cI, 8, .inl (rI PI))), (e4, .inl (cI, 8, .inl (rI BE))), (e5, .inl (cI, 32, .inl (rI CO))), (e6, .inl (cI, 9, .inl (rI AH))), (o0, .inr (7, [.ref o1, .ref o2, .ref o3, .ref o4, .ref o5, .ref o6, .int (nI n), .int (nI k), .int wd, .int (bb wt)])), (o1, .inl (cI, 8, .inl xs)), (o2, .inl (cI, 8, .inl ys)), (o3, .inl (cI, 8, .inl rf)), (o4, .inl (cI, 8, .inl bo)), (o5, .inl (cI, 4, .inl pr)), (o6, .inl (cI, 4, .inl bu))] := hD
  refine lv_aload_n hx hb dX4_prepare_8 rfl (lv_at hl 0 rfl) ?_
  refine lv_aload_n hx hb dX4_prepare_9 rfl (lv_at hl 1 rfl) ?_
  refine va_getN (D := D) (ci := 7) (v := .int (nI k)) (C := RX8) (T := TX8) (N := 10) hx hb hts hin_X8 hown hK hP 7 rfl rfl 7 (by decide) wn_1 (fun _ h9 => h9) rfl dX4_prepare_10 ?_
  refine va_put (D := D) (ci := 3) (v := .int (nI k)) (ty := .int) (C := RX4) (T := TX4) (N := 9) hx hb hts hin_X4 tyX4 tyX4_ok nmX4 hown hK hP hD hS 0 rfl rfl 7 (by decide) w_1 (fun _ h9 => h9) rfl (by decide +kernel) rfl rfl (Nat.le_of_ble_eq_true rfl) dX4_prepare_13 (fun H locs hP hD hS => ?_)
  have hP : va_P D vwCl [(e0, .inr (3, [.ref e1, .ref e2, .ref e3, .ref e4, .ref e5, .ref e6, .int (nI n), .int (nI k), .int (nI LL)])), (e1, .inl (cI, 8, .inl (rI NE))), (e2, .inl (cI, 8, .inl (rI AL))), (e3, .inl (cI, 8, .inl (rI PI))), (e4, .inl (cI, 8, .inl (rI BE))), (e5, .inl (cI, 32, .inl (rI CO))), (e6, .inl (cI, 9, .inl (rI AH))), (o0, .inr (7, [.ref o1, .ref o2, .ref o3, .ref o4, .ref o5, .ref o6, .int (nI n), .int (nI k), .int wd, .int (bb wt)])), (o1, .inl (cI, 8, .inl xs)), (o2, .inl (cI, 8, .inl ys)), (o3, .inl (cI, 8, .inl rf)), (o4, .inl (cI, 8, .inl bo)), (o5, .inl (cI, 4, .inl pr)), (o6, .inl (cI, 4, .inl bu))] H := hP
  have hD : va_D A [(e0, .inr (3, [.ref e1, .ref e2, .ref e3, .ref e4, .ref e5, .ref e6, .int (nI n), .int (nI k), .int (nI LL)])), (e1, .inl (cI, 8, .inl (rI NE))), (e2, .inl (cI, 8, .inl (rI AL))), (e3, .inl (cI, 8, .inl (rI PI))), (e4, .inl (cI, 8, .inl (rI BE))), (e5, .inl (cI, 32, .inl (rI CO))), (e6, .inl (cI, 9, .inl (rI AH))), (o0, .inr (7, [.ref o1, .ref o2, .ref o3, .ref o4, .ref o5, .ref o6, .int (nI n), .int (nI k), .int wd, .int (bb wt)])), (o1, .inl (cI, 8, .inl xs)), (o2, .inl (cI, 8, .inl ys)), (o3, .inl (cI, 8, .inl rf)), (o4, .inl (cI, 8, .inl bo)), (o5, .inl (cI, 4, .inl pr)), (o6, .inl (cI, 4, .inl bu))] := hD
  refine lv_iconst (v := (0 : Int32)) hx hb dX4_prepare_16 (by decide) ?_
  refine lv_istore_n (lv' := [(3, .int (0 : Int32)), (0, .ref e0), (1, .ref o0), (2, .int sp)]) hx hb dX4_prepare_17 rfl hl (by decide) rfl (fun ls hl => ?_)
  have L_18 : ∀ (fuel : Nat) (NEa : Nat → Nat) (ALa : Nat → Nat) (i : Nat), (i ≤ n) → (∀ h, h < i → NEa h = mkM (fun g => nearb xs ys h sp g) n) → (∀ h, h < i → ALa h = alN bo k h) → (n - i) < fuel → ∀ (H : Heap) (locs : List Loc), va_P D vwCl [(e0, .inr (3, [.ref e1, .ref e2, .ref e3, .ref e4, .ref e5, .ref e6, .int (nI n), .int (nI k), .int (nI LL)])), (e1, .inl (cI, 8, .inl (rI NEa))), (e2, .inl (cI, 8, .inl (rI ALa))), (e3, .inl (cI, 8, .inl (rI PI))), (e4, .inl (cI, 8, .inl (rI BE))), (e5, .inl (cI, 32, .inl (rI CO))), (e6, .inl (cI, 9, .inl (rI AH))), (o0, .inr (7, [.ref o1, .ref o2, .ref o3, .ref o4, .ref o5, .ref o6, .int (nI n), .int (nI k), .int wd, .int (bb wt)])), (o1, .inl (cI, 8, .inl xs)), (o2, .inl (cI, 8, .inl ys)), (o3, .inl (cI, 8, .inl rf)), (o4, .inl (cI, 8, .inl bo)), (o5, .inl (cI, 4, .inl pr)), (o6, .inl (cI, 4, .inl bu))] H → va_D A [(e0, .inr (3, [.ref e1, .ref e2, .ref e3, .ref e4, .ref e5, .ref e6, .int (nI n), .int (nI k), .int (nI LL)])), (e1, .inl (cI, 8, .inl (rI NEa))), (e2, .inl (cI, 8, .inl (rI ALa))), (e3, .inl (cI, 8, .inl (rI PI))), (e4, .inl (cI, 8, .inl (rI BE))), (e5, .inl (cI, 32, .inl (rI CO))), (e6, .inl (cI, 9, .inl (rI AH))), (o0, .inr (7, [.ref o1, .ref o2, .ref o3, .ref o4, .ref o5, .ref o6, .int (nI n), .int (nI k), .int wd, .int (bb wt)])), (o1, .inl (cI, 8, .inl xs)), (o2, .inl (cI, 8, .inl ys)), (o3, .inl (cI, 8, .inl rf)), (o4, .inl (cI, 8, .inl bo)), (o5, .inl (cI, 4, .inl pr)), (o6, .inl (cI, 4, .inl bu))] → va_S A s.heap H locs → ∀ ls : Array Slot, lv_has ls 4 [(3, .int (nI i)), (0, .ref e0), (1, .ref o0), (2, .int sp)] → W p l e (xRm 3 69) s m ([.ref e0, .ref o0, .int sp] : List Value).toArray below meth c H locs 0 0 Q (F0 m 18 ls []) := by
    intro fuel
    induction fuel with
    | zero =>
      intro NEa ALa i hi h1 h2 hm
      exact absurd hm (Nat.not_lt_zero _)
    | succ fuel ih_18 =>
      intro NEa ALa i hi h1 h2 hm_18 H locs hP hD hS ls hl
      refine lv_iload_n hx hb dX4_prepare_18 rfl (lv_at hl 0 rfl) ?_
      refine lv_aload_n hx hb dX4_prepare_19 rfl (lv_at hl 1 rfl) ?_
      refine va_get (D := D) (ci := 3) (v := .int (nI n)) (C := RX4) (T := TX4) (N := 9) hx hb hts hin_X4 hown hK hP 0 rfl rfl 6 (by decide) w_0 (fun _ h9 => h9) rfl dX4_prepare_20 ?_
      refine lv_icmp_ge (tgt := 80) hx hb dX4_prepare_23 (by decide) (fun c_23 => ?_) (fun c_23 => ?_)
      ·
        have n_23 : n ≤ i := (nI_leI (show n < 2147483648 by omega) (show i < 2147483648 by omega)).1 c_23
        refine lv_iconst (v := (0 : Int32)) hx hb dX4_prepare_80 (by decide) ?_
        refine lv_istore_n (lv' := [(3, .int (0 : Int32)), (0, .ref e0), (1, .ref o0), (2, .int sp)]) hx hb dX4_prepare_81 rfl hl (by decide) rfl (fun ls hl => ?_)
        have L_82 : ∀ (fuel : Nat) (COa : Nat → Nat) (i : Nat), (i ≤ 32) → (∀ j, j < i → COa j = 0) → (32 - i) < fuel → ∀ (H : Heap) (locs : List Loc), va_P D vwCl [(e0, .inr (3, [.ref e1, .ref e2, .ref e3, .ref e4, .ref e5, .ref e6, .int (nI n), .int (nI k), .int (nI LL)])), (e1, .inl (cI, 8, .inl (rI NEa))), (e2, .inl (cI, 8, .inl (rI ALa))), (e3, .inl (cI, 8, .inl (rI PI))), (e4, .inl (cI, 8, .inl (rI BE))), (e5, .inl (cI, 32, .inl (rI COa))), (e6, .inl (cI, 9, .inl (rI AH))), (o0, .inr (7, [.ref o1, .ref o2, .ref o3, .ref o4, .ref o5, .ref o6, .int (nI n), .int (nI k), .int wd, .int (bb wt)])), (o1, .inl (cI, 8, .inl xs)), (o2, .inl (cI, 8, .inl ys)), (o3, .inl (cI, 8, .inl rf)), (o4, .inl (cI, 8, .inl bo)), (o5, .inl (cI, 4, .inl pr)), (o6, .inl (cI, 4, .inl bu))] H → va_D A [(e0, .inr (3, [.ref e1, .ref e2, .ref e3, .ref e4, .ref e5, .ref e6, .int (nI n), .int (nI k), .int (nI LL)])), (e1, .inl (cI, 8, .inl (rI NEa))), (e2, .inl (cI, 8, .inl (rI ALa))), (e3, .inl (cI, 8, .inl (rI PI))), (e4, .inl (cI, 8, .inl (rI BE))), (e5, .inl (cI, 32, .inl (rI COa))), (e6, .inl (cI, 9, .inl (rI AH))), (o0, .inr (7, [.ref o1, .ref o2, .ref o3, .ref o4, .ref o5, .ref o6, .int (nI n), .int (nI k), .int wd, .int (bb wt)])), (o1, .inl (cI, 8, .inl xs)), (o2, .inl (cI, 8, .inl ys)), (o3, .inl (cI, 8, .inl rf)), (o4, .inl (cI, 8, .inl bo)), (o5, .inl (cI, 4, .inl pr)), (o6, .inl (cI, 4, .inl bu))] → va_S A s.heap H locs → ∀ ls : Array Slot, lv_has ls 4 [(3, .int (nI i)), (0, .ref e0), (1, .ref o0), (2, .int sp)] → W p l e (xRm 3 69) s m ([.ref e0, .ref o0, .int sp] : List Value).toArray below meth c H locs 0 0 Q (F0 m 82 ls []) := by
          intro fuel
          induction fuel with
          | zero =>
            intro COa i hi2 h3 hm
            exact absurd hm (Nat.not_lt_zero _)
          | succ fuel ih_82 =>
            intro COa i hi2 h3 hm_82 H locs hP hD hS ls hl
            refine lv_iload_n hx hb dX4_prepare_82 rfl (lv_at hl 0 rfl) ?_
            refine lv_aload_n hx hb dX4_prepare_83 rfl (lv_at hl 1 rfl) ?_
            refine va_get (D := D) (ci := 3) (v := .ref e5) (C := RX4) (T := TX4) (N := 9) hx hb hts hin_X4 hown hK hP 0 rfl rfl 4 (by decide) w_2 (fun _ h9 => h9) rfl dX4_prepare_84 ?_
            refine va_alen (v := (32 : Int32)) hx hb hK hP 5 0 rfl rfl rfl dX4_prepare_87 ?_
            refine lv_icmp_ge (tgt := 104) hx hb dX4_prepare_88 (by decide) (fun c_88 => ?_) (fun c_88 => ?_)
            ·
              have n_88 : 32 ≤ i := (nI_leI (show 32 < 2147483648 by omega) (show i < 2147483648 by omega)).1 c_88
              exact hret (NEa, ALa, COa) _ _ _ _ (⟨fun h hh => h1 h (by omega), fun h hh => h2 h (by omega), fun j hj => h3 j (by omega)⟩) hP hD hS dX4_prepare_104
            ·
              have n_88 : i < 32 := Nat.lt_of_not_le (fun q => c_88 ((nI_leI (show 32 < 2147483648 by omega) (show i < 2147483648 by omega)).2 q))
              refine lv_aload_n hx hb dX4_prepare_91 rfl (lv_at hl 1 rfl) ?_
              refine va_get (D := D) (ci := 3) (v := .ref e5) (C := RX4) (T := TX4) (N := 9) hx hb hts hin_X4 hown hK hP 0 rfl rfl 4 (by decide) w_2 (fun _ h9 => h9) rfl dX4_prepare_92 ?_
              refine lv_iload_n hx hb dX4_prepare_95 rfl (lv_at hl 0 rfl) ?_
              refine lv_iconst (v := (0 : Int32)) hx hb dX4_prepare_96 (by decide) ?_
              refine x_iastN hx hb hK hP hD hS 5 0 rfl rfl (j := i) (by omega) (by decide) dX4_prepare_97 (fun H locs hP hD hS => ?_)
              have hP : va_P D vwCl [(e0, .inr (3, [.ref e1, .ref e2, .ref e3, .ref e4, .ref e5, .ref e6, .int (nI n), .int (nI k), .int (nI LL)])), (e1, .inl (cI, 8, .inl (rI NEa))), (e2, .inl (cI, 8, .inl (rI ALa))), (e3, .inl (cI, 8, .inl (rI PI))), (e4, .inl (cI, 8, .inl (rI BE))), (e5, .inl (cI, 32, .inl (rI (updN COa i 0)))), (e6, .inl (cI, 9, .inl (rI AH))), (o0, .inr (7, [.ref o1, .ref o2, .ref o3, .ref o4, .ref o5, .ref o6, .int (nI n), .int (nI k), .int wd, .int (bb wt)])), (o1, .inl (cI, 8, .inl xs)), (o2, .inl (cI, 8, .inl ys)), (o3, .inl (cI, 8, .inl rf)), (o4, .inl (cI, 8, .inl bo)), (o5, .inl (cI, 4, .inl pr)), (o6, .inl (cI, 4, .inl bu))] H := hP
              have hD : va_D A [(e0, .inr (3, [.ref e1, .ref e2, .ref e3, .ref e4, .ref e5, .ref e6, .int (nI n), .int (nI k), .int (nI LL)])), (e1, .inl (cI, 8, .inl (rI NEa))), (e2, .inl (cI, 8, .inl (rI ALa))), (e3, .inl (cI, 8, .inl (rI PI))), (e4, .inl (cI, 8, .inl (rI BE))), (e5, .inl (cI, 32, .inl (rI (updN COa i 0)))), (e6, .inl (cI, 9, .inl (rI AH))), (o0, .inr (7, [.ref o1, .ref o2, .ref o3, .ref o4, .ref o5, .ref o6, .int (nI n), .int (nI k), .int wd, .int (bb wt)])), (o1, .inl (cI, 8, .inl xs)), (o2, .inl (cI, 8, .inl ys)), (o3, .inl (cI, 8, .inl rf)), (o4, .inl (cI, 8, .inl bo)), (o5, .inl (cI, 4, .inl pr)), (o6, .inl (cI, 4, .inl bu))] := hD
              refine lv_iinc (v := nI (i + 1)) (lv' := [(3, .int (nI (i + 1))), (0, .ref e0), (1, .ref o0), (2, .int sp)]) hx hb dX4_prepare_98 hl (k := 0) rfl (by first | rfl | exact nI_add _ 1 | (simp only [] ; exact nI_add _ 1)) (by decide) rfl (fun ls hl => ?_)
              refine lv_goto (tgt := 82) hx hb dX4_prepare_101 (by decide) ?_
              exact ih_82 (updN COa i 0) (i + 1) (by omega) (updN_ext h3 rfl) (by omega) _ _ hP hD hS _ (lv_sub hl [0, 1, 2, 3] rfl)
        exact L_82 (Nat.succ (32 - 0)) CO 0 (by decide) (fun _ q => absurd q (Nat.not_lt_zero _)) (Nat.lt_succ_self _) _ _ hP hD hS _ (lv_sub hl [0, 1, 2, 3] rfl)
      ·
        have n_23 : i < n := Nat.lt_of_not_le (fun q => c_23 ((nI_leI (show n < 2147483648 by omega) (show i < 2147483648 by omega)).2 q))
        refine lv_aload_n hx hb dX4_prepare_26 rfl (lv_at hl 1 rfl) ?_
        refine va_get (D := D) (ci := 3) (v := .ref e1) (C := RX4) (T := TX4) (N := 9) hx hb hts hin_X4 hown hK hP 0 rfl rfl 0 (by decide) w_3 (fun _ h9 => h9) rfl dX4_prepare_27 ?_
        refine lv_iload_n hx hb dX4_prepare_30 rfl (lv_at hl 0 rfl) ?_
        refine lv_aload_n hx hb dX4_prepare_31 rfl (lv_at hl 2 rfl) ?_
        refine lv_iload_n hx hb dX4_prepare_32 rfl (lv_at hl 0 rfl) ?_
        refine lv_iload_n hx hb dX4_prepare_33 rfl (lv_at hl 3 rfl) ?_
        refine xcV_i (As := [.int (nI i), .int sp]) (rest := [.int (nI i), .ref e1]) (wc := [(o0, .inr (7, [.ref o1, .ref o2, .ref o3, .ref o4, .ref o5, .ref o6, .int (nI n), .int (nI k), .int wd, .int (bb wt)])), (o1, .inl (cI, 8, .inl xs)), (o2, .inl (cI, 8, .inl ys)), (o3, .inl (cI, 8, .inl rf)), (o4, .inl (cI, 8, .inl bo)), (o5, .inl (cI, 4, .inl pr)), (o6, .inl (cI, 4, .inl bu))]) (wr := [(e0, .inr (3, [.ref e1, .ref e2, .ref e3, .ref e4, .ref e5, .ref e6, .int (nI n), .int (nI k), .int (nI LL)])), (e1, .inl (cI, 8, .inl (rI NEa))), (e2, .inl (cI, 8, .inl (rI ALa))), (e3, .inl (cI, 8, .inl (rI PI))), (e4, .inl (cI, 8, .inl (rI BE))), (e5, .inl (cI, 32, .inl (rI CO))), (e6, .inl (cI, 9, .inl (rI AH)))]) (w3 := fun (u : Unit) => [(e0, .inr (3, [.ref e1, .ref e2, .ref e3, .ref e4, .ref e5, .ref e6, .int (nI n), .int (nI k), .int (nI LL)])), (e1, .inl (cI, 8, .inl (rI NEa))), (e2, .inl (cI, 8, .inl (rI ALa))), (e3, .inl (cI, 8, .inl (rI PI))), (e4, .inl (cI, 8, .inl (rI BE))), (e5, .inl (cI, 32, .inl (rI CO))), (e6, .inl (cI, 9, .inl (rI AH))), (o0, .inr (7, [.ref o1, .ref o2, .ref o3, .ref o4, .ref o5, .ref o6, .int (nI n), .int (nI k), .int wd, .int (bb wt)])), (o1, .inl (cI, 8, .inl xs)), (o2, .inl (cI, 8, .inl ys)), (o3, .inl (cI, 8, .inl rf)), (o4, .inl (cI, 8, .inl bo)), (o5, .inl (cI, 4, .inl pr)), (o6, .inl (cI, 4, .inl bu))]) ⟨hx, hb, hml, hown, hts⟩ (c_X8_near l D cI cZ cO H.size o0 o1 o2 o3 o4 o5 o6 xs ys rf bo pr bu n k wd wt i sp (by first | assumption | omega | rfl) (by first | assumption | omega | rfl)) (cwV 2 hts gX4_prepare_X8_near rfl rfl rfl (by decide +kernel) ⟨Nat.le_of_ble_eq_true rfl, Nat.le_of_ble_eq_true rfl⟩) (xGdc gR gD gK gV) xGd0 (fun _ _ _ _ => trivial) hG hP hD hK hS hA [7, 8, 9, 10, 11, 12, 13] [0, 1, 2, 3, 4, 5, 6] [0, 1, 2, 3, 4, 5, 6, 7, 8, 9, 10, 11, 12, 13] rfl rfl rfl rfl rfl 7 rfl rfl rfl (fun _ => rfl) rfl rfl hl.1 (Nat.le_of_ble_eq_true rfl) dX4_prepare_34 ⟨Nat.zero_le _, Nat.zero_le _⟩ (fun r u H locs hw hP hD hS => ?_)
        obtain ⟨rfl, hw⟩ := hw
        have hw_34 : True := hw
        have hP : va_P D vwCl [(e0, .inr (3, [.ref e1, .ref e2, .ref e3, .ref e4, .ref e5, .ref e6, .int (nI n), .int (nI k), .int (nI LL)])), (e1, .inl (cI, 8, .inl (rI NEa))), (e2, .inl (cI, 8, .inl (rI ALa))), (e3, .inl (cI, 8, .inl (rI PI))), (e4, .inl (cI, 8, .inl (rI BE))), (e5, .inl (cI, 32, .inl (rI CO))), (e6, .inl (cI, 9, .inl (rI AH))), (o0, .inr (7, [.ref o1, .ref o2, .ref o3, .ref o4, .ref o5, .ref o6, .int (nI n), .int (nI k), .int wd, .int (bb wt)])), (o1, .inl (cI, 8, .inl xs)), (o2, .inl (cI, 8, .inl ys)), (o3, .inl (cI, 8, .inl rf)), (o4, .inl (cI, 8, .inl bo)), (o5, .inl (cI, 4, .inl pr)), (o6, .inl (cI, 4, .inl bu))] H := hP
        have hD : va_D A [(e0, .inr (3, [.ref e1, .ref e2, .ref e3, .ref e4, .ref e5, .ref e6, .int (nI n), .int (nI k), .int (nI LL)])), (e1, .inl (cI, 8, .inl (rI NEa))), (e2, .inl (cI, 8, .inl (rI ALa))), (e3, .inl (cI, 8, .inl (rI PI))), (e4, .inl (cI, 8, .inl (rI BE))), (e5, .inl (cI, 32, .inl (rI CO))), (e6, .inl (cI, 9, .inl (rI AH))), (o0, .inr (7, [.ref o1, .ref o2, .ref o3, .ref o4, .ref o5, .ref o6, .int (nI n), .int (nI k), .int wd, .int (bb wt)])), (o1, .inl (cI, 8, .inl xs)), (o2, .inl (cI, 8, .inl ys)), (o3, .inl (cI, 8, .inl rf)), (o4, .inl (cI, 8, .inl bo)), (o5, .inl (cI, 4, .inl pr)), (o6, .inl (cI, 4, .inl bu))] := hD
        refine x_iastN hx hb hK hP hD hS 1 0 rfl rfl (j := i) (by omega) (by decide) dX4_prepare_37 (fun H locs hP hD hS => ?_)
        have hP : va_P D vwCl [(e0, .inr (3, [.ref e1, .ref e2, .ref e3, .ref e4, .ref e5, .ref e6, .int (nI n), .int (nI k), .int (nI LL)])), (e1, .inl (cI, 8, .inl (rI (updN NEa i (mkM (fun g => nearb xs ys i sp g) n))))), (e2, .inl (cI, 8, .inl (rI ALa))), (e3, .inl (cI, 8, .inl (rI PI))), (e4, .inl (cI, 8, .inl (rI BE))), (e5, .inl (cI, 32, .inl (rI CO))), (e6, .inl (cI, 9, .inl (rI AH))), (o0, .inr (7, [.ref o1, .ref o2, .ref o3, .ref o4, .ref o5, .ref o6, .int (nI n), .int (nI k), .int wd, .int (bb wt)])), (o1, .inl (cI, 8, .inl xs)), (o2, .inl (cI, 8, .inl ys)), (o3, .inl (cI, 8, .inl rf)), (o4, .inl (cI, 8, .inl bo)), (o5, .inl (cI, 4, .inl pr)), (o6, .inl (cI, 4, .inl bu))] H := hP
        have hD : va_D A [(e0, .inr (3, [.ref e1, .ref e2, .ref e3, .ref e4, .ref e5, .ref e6, .int (nI n), .int (nI k), .int (nI LL)])), (e1, .inl (cI, 8, .inl (rI (updN NEa i (mkM (fun g => nearb xs ys i sp g) n))))), (e2, .inl (cI, 8, .inl (rI ALa))), (e3, .inl (cI, 8, .inl (rI PI))), (e4, .inl (cI, 8, .inl (rI BE))), (e5, .inl (cI, 32, .inl (rI CO))), (e6, .inl (cI, 9, .inl (rI AH))), (o0, .inr (7, [.ref o1, .ref o2, .ref o3, .ref o4, .ref o5, .ref o6, .int (nI n), .int (nI k), .int wd, .int (bb wt)])), (o1, .inl (cI, 8, .inl xs)), (o2, .inl (cI, 8, .inl ys)), (o3, .inl (cI, 8, .inl rf)), (o4, .inl (cI, 8, .inl bo)), (o5, .inl (cI, 4, .inl pr)), (o6, .inl (cI, 4, .inl bu))] := hD
        refine lv_aload_n hx hb dX4_prepare_38 rfl (lv_at hl 1 rfl) ?_
        refine va_get (D := D) (ci := 3) (v := .ref e2) (C := RX4) (T := TX4) (N := 9) hx hb hts hin_X4 hown hK hP 0 rfl rfl 1 (by decide) w_4 (fun _ h9 => h9) rfl dX4_prepare_39 ?_
        refine lv_iload_n hx hb dX4_prepare_42 rfl (lv_at hl 0 rfl) ?_
        refine lv_aload_n hx hb dX4_prepare_43 rfl (lv_at hl 2 rfl) ?_
        refine va_getN (D := D) (ci := 7) (v := .ref o4) (C := RX8) (T := TX8) (N := 10) hx hb hts hin_X8 hown hK hP 7 rfl rfl 3 (by decide) wn_2 (fun _ h9 => h9) rfl dX4_prepare_44 ?_
        refine lv_iload_n hx hb dX4_prepare_47 rfl (lv_at hl 0 rfl) ?_
        refine x_iald hx hb hK hP 11 0 rfl rfl (j := i) (by omega) (by decide) dX4_prepare_48 ?_
        refine lv_bipush (v := (-9 : Int32)) hx hb dX4_prepare_49 (by decide) ?_
        refine lv_icmp_ne (tgt := 65) hx hb dX4_prepare_51 (by decide) (fun c_51 => ?_) (fun c_51 => ?_)
        ·
          refine lv_iconst (v := (1 : Int32)) hx hb dX4_prepare_65 (by decide) ?_
          refine lv_aload_n hx hb dX4_prepare_66 rfl (lv_at hl 2 rfl) ?_
          refine va_getN (D := D) (ci := 7) (v := .ref o4) (C := RX8) (T := TX8) (N := 10) hx hb hts hin_X8 hown hK hP 7 rfl rfl 3 (by decide) wn_2 (fun _ h9 => h9) rfl dX4_prepare_67 ?_
          refine lv_iload_n hx hb dX4_prepare_70 rfl (lv_at hl 0 rfl) ?_
          refine x_iald hx hb hK hP 11 0 rfl rfl (j := i) (by omega) (by decide) dX4_prepare_71 ?_
          obtain ⟨v, hv, ev⟩ := (hbo i n_23).resolve_left c_51
          refine lv_topr ev ?_
          refine lv_ishl hx hb dX4_prepare_72 ?_
          refine lv_topr (x' := nI (2 ^ v)) (sh1 (by omega)) ?_
          refine x_iastN hx hb hK hP hD hS 2 0 rfl rfl (j := i) (by omega) (by decide) dX4_prepare_73 (fun H locs hP hD hS => ?_)
          have hP : va_P D vwCl [(e0, .inr (3, [.ref e1, .ref e2, .ref e3, .ref e4, .ref e5, .ref e6, .int (nI n), .int (nI k), .int (nI LL)])), (e1, .inl (cI, 8, .inl (rI (updN NEa i (mkM (fun g => nearb xs ys i sp g) n))))), (e2, .inl (cI, 8, .inl (rI (updN ALa i (2 ^ v))))), (e3, .inl (cI, 8, .inl (rI PI))), (e4, .inl (cI, 8, .inl (rI BE))), (e5, .inl (cI, 32, .inl (rI CO))), (e6, .inl (cI, 9, .inl (rI AH))), (o0, .inr (7, [.ref o1, .ref o2, .ref o3, .ref o4, .ref o5, .ref o6, .int (nI n), .int (nI k), .int wd, .int (bb wt)])), (o1, .inl (cI, 8, .inl xs)), (o2, .inl (cI, 8, .inl ys)), (o3, .inl (cI, 8, .inl rf)), (o4, .inl (cI, 8, .inl bo)), (o5, .inl (cI, 4, .inl pr)), (o6, .inl (cI, 4, .inl bu))] H := hP
          have hD : va_D A [(e0, .inr (3, [.ref e1, .ref e2, .ref e3, .ref e4, .ref e5, .ref e6, .int (nI n), .int (nI k), .int (nI LL)])), (e1, .inl (cI, 8, .inl (rI (updN NEa i (mkM (fun g => nearb xs ys i sp g) n))))), (e2, .inl (cI, 8, .inl (rI (updN ALa i (2 ^ v))))), (e3, .inl (cI, 8, .inl (rI PI))), (e4, .inl (cI, 8, .inl (rI BE))), (e5, .inl (cI, 32, .inl (rI CO))), (e6, .inl (cI, 9, .inl (rI AH))), (o0, .inr (7, [.ref o1, .ref o2, .ref o3, .ref o4, .ref o5, .ref o6, .int (nI n), .int (nI k), .int wd, .int (bb wt)])), (o1, .inl (cI, 8, .inl xs)), (o2, .inl (cI, 8, .inl ys)), (o3, .inl (cI, 8, .inl rf)), (o4, .inl (cI, 8, .inl bo)), (o5, .inl (cI, 4, .inl pr)), (o6, .inl (cI, 4, .inl bu))] := hD
          refine lv_iinc (v := nI (i + 1)) (lv' := [(3, .int (nI (i + 1))), (0, .ref e0), (1, .ref o0), (2, .int sp)]) hx hb dX4_prepare_74 hl (k := 0) rfl (by first | rfl | exact nI_add _ 1 | (simp only [] ; exact nI_add _ 1)) (by decide) rfl (fun ls hl => ?_)
          refine lv_goto (tgt := 18) hx hb dX4_prepare_77 (by decide) ?_
          exact ih_18 (updN NEa i (mkM (fun g => nearb xs ys i sp g) n)) (updN ALa i (2 ^ v)) (i + 1) (by omega) (updN_ext h1 rfl) (updN_ext h2 (by rw [alN, if_neg c_51, ev, tnI (show v < 2147483648 by omega)])) (by omega) _ _ hP hD hS _ (lv_sub hl [0, 1, 2, 3] rfl)
        ·
          refine lv_iconst (v := (1 : Int32)) hx hb dX4_prepare_54 (by decide) ?_
          refine lv_aload_n hx hb dX4_prepare_55 rfl (lv_at hl 1 rfl) ?_
          refine va_get (D := D) (ci := 3) (v := .int (nI k)) (C := RX4) (T := TX4) (N := 9) hx hb hts hin_X4 hown hK hP 0 rfl rfl 7 (by decide) w_1 (fun _ h9 => h9) rfl dX4_prepare_56 ?_
          refine lv_ishl hx hb dX4_prepare_59 ?_
          refine lv_topr (x' := nI (2 ^ k)) (sh1 (by omega)) ?_
          refine lv_iconst (v := (1 : Int32)) hx hb dX4_prepare_60 (by decide) ?_
          refine lv_isub hx hb dX4_prepare_61 ?_
          refine lv_topr (x' := nI (2 ^ k - 1)) (pk_sub (Nat.one_le_two_pow)) ?_
          refine lv_goto (tgt := 73) hx hb dX4_prepare_62 (by decide) ?_
          refine x_iastN hx hb hK hP hD hS 2 0 rfl rfl (j := i) (by omega) (by decide) dX4_prepare_73 (fun H locs hP hD hS => ?_)
          have hP : va_P D vwCl [(e0, .inr (3, [.ref e1, .ref e2, .ref e3, .ref e4, .ref e5, .ref e6, .int (nI n), .int (nI k), .int (nI LL)])), (e1, .inl (cI, 8, .inl (rI (updN NEa i (mkM (fun g => nearb xs ys i sp g) n))))), (e2, .inl (cI, 8, .inl (rI (updN ALa i (2 ^ k - 1))))), (e3, .inl (cI, 8, .inl (rI PI))), (e4, .inl (cI, 8, .inl (rI BE))), (e5, .inl (cI, 32, .inl (rI CO))), (e6, .inl (cI, 9, .inl (rI AH))), (o0, .inr (7, [.ref o1, .ref o2, .ref o3, .ref o4, .ref o5, .ref o6, .int (nI n), .int (nI k), .int wd, .int (bb wt)])), (o1, .inl (cI, 8, .inl xs)), (o2, .inl (cI, 8, .inl ys)), (o3, .inl (cI, 8, .inl rf)), (o4, .inl (cI, 8, .inl bo)), (o5, .inl (cI, 4, .inl pr)), (o6, .inl (cI, 4, .inl bu))] H := hP
          have hD : va_D A [(e0, .inr (3, [.ref e1, .ref e2, .ref e3, .ref e4, .ref e5, .ref e6, .int (nI n), .int (nI k), .int (nI LL)])), (e1, .inl (cI, 8, .inl (rI (updN NEa i (mkM (fun g => nearb xs ys i sp g) n))))), (e2, .inl (cI, 8, .inl (rI (updN ALa i (2 ^ k - 1))))), (e3, .inl (cI, 8, .inl (rI PI))), (e4, .inl (cI, 8, .inl (rI BE))), (e5, .inl (cI, 32, .inl (rI CO))), (e6, .inl (cI, 9, .inl (rI AH))), (o0, .inr (7, [.ref o1, .ref o2, .ref o3, .ref o4, .ref o5, .ref o6, .int (nI n), .int (nI k), .int wd, .int (bb wt)])), (o1, .inl (cI, 8, .inl xs)), (o2, .inl (cI, 8, .inl ys)), (o3, .inl (cI, 8, .inl rf)), (o4, .inl (cI, 8, .inl bo)), (o5, .inl (cI, 4, .inl pr)), (o6, .inl (cI, 4, .inl bu))] := hD
          refine lv_iinc (v := nI (i + 1)) (lv' := [(3, .int (nI (i + 1))), (0, .ref e0), (1, .ref o0), (2, .int sp)]) hx hb dX4_prepare_74 hl (k := 0) rfl (by first | rfl | exact nI_add _ 1 | (simp only [] ; exact nI_add _ 1)) (by decide) rfl (fun ls hl => ?_)
          refine lv_goto (tgt := 18) hx hb dX4_prepare_77 (by decide) ?_
          exact ih_18 (updN NEa i (mkM (fun g => nearb xs ys i sp g) n)) (updN ALa i (2 ^ k - 1)) (i + 1) (by omega) (updN_ext h1 rfl) (updN_ext h2 (by rw [alN, if_pos c_51])) (by omega) _ _ hP hD hS _ (lv_sub hl [0, 1, 2, 3] rfl)
  exact L_18 (Nat.succ (n - 0)) NE AL 0 (Nat.zero_le _) (fun _ q => absurd q (Nat.not_lt_zero _)) (fun _ q => absurd q (Nat.not_lt_zero _)) (Nat.lt_succ_self _) _ _ hP hD hS _ (lv_sub hl [0, 1, 2, 3] rfl)

set_option maxHeartbeats 4000000 in
set_option maxRecDepth 100000 in
theorem c_X4_costPrices (l : Launch) (D : va_G) (cI cZ cO : ClassId) (sz : Nat) (gR : Nat) (gD : Nat) (gK : Nat → Nat) (gV : Nat → Nat) (e0 : Nat) (e1 : Nat) (e2 : Nat) (e3 : Nat) (e4 : Nat) (e5 : Nat) (e6 : Nat) (ns : Nat) (ks : Nat) (LL : Nat) (NE : Nat → Nat) (AL : Nat → Nat) (PI : Nat → Nat) (BE : Nat → Nat) (CO : Nat → Nat) (AH : Nat → Nat) (o0 : Nat) (o1 : Nat) (o2 : Nat) (o3 : Nat) (o4 : Nat) (o5 : Nat) (o6 : Nat) (xs : Nat → Int32) (ys : Nat → Int32) (rf : Nat → Int32) (bo : Nat → Int32) (pr : Nat → Int32) (bu : Nat → Int32) (n : Nat) (k : Nat) (wd : Int32) (wt : Bool) (PR : Nat → Nat) (hn : n ≤ 8) (hk : k ≤ 4) (hns : ns = n) (hks : ks = k) (hpr : ∀ v, v < k → pr v = nI (PR v)) : xMv l yX4_costPrices wsX4_costPrices (2) (42) D (TY cI cZ cO) (xGc gR gD gK gV) [.ref e0, .ref o0] [(e0, .inr (3, [.ref e1, .ref e2, .ref e3, .ref e4, .ref e5, .ref e6, .int (nI ns), .int (nI ks), .int (nI LL)])), (e1, .inl (cI, 8, .inl (rI NE))), (e2, .inl (cI, 8, .inl (rI AL))), (e3, .inl (cI, 8, .inl (rI PI))), (e4, .inl (cI, 8, .inl (rI BE))), (e5, .inl (cI, 32, .inl (rI CO))), (e6, .inl (cI, 9, .inl (rI AH))), (o0, .inr (7, [.ref o1, .ref o2, .ref o3, .ref o4, .ref o5, .ref o6, .int (nI n), .int (nI k), .int wd, .int (bb wt)])), (o1, .inl (cI, 8, .inl xs)), (o2, .inl (cI, 8, .inl ys)), (o3, .inl (cI, 8, .inl rf)), (o4, .inl (cI, 8, .inl bo)), (o5, .inl (cI, 4, .inl pr)), (o6, .inl (cI, 4, .inl bu))] sz (fun (u : (Nat → Nat)) => (∀ h, h < n → ∀ v, v < k → u (h * 4 + v) = PR v)) (fun (u : (Nat → Nat)) => [(e0, .inr (3, [.ref e1, .ref e2, .ref e3, .ref e4, .ref e5, .ref e6, .int (nI ns), .int (nI ks), .int (nI LL)])), (e1, .inl (cI, 8, .inl (rI NE))), (e2, .inl (cI, 8, .inl (rI AL))), (e3, .inl (cI, 8, .inl (rI PI))), (e4, .inl (cI, 8, .inl (rI BE))), (e5, .inl (cI, 32, .inl (rI u))), (e6, .inl (cI, 9, .inl (rI AH))), (o0, .inr (7, [.ref o1, .ref o2, .ref o3, .ref o4, .ref o5, .ref o6, .int (nI n), .int (nI k), .int wd, .int (bb wt)])), (o1, .inl (cI, 8, .inl xs)), (o2, .inl (cI, 8, .inl ys)), (o3, .inl (cI, 8, .inl rf)), (o4, .inl (cI, 8, .inl bo)), (o5, .inl (cI, 4, .inl pr)), (o6, .inl (cI, 4, .inl bu))]) := by
  refine xMv.of (cc := cX4_costPrices) (maxL := 4) (by decide +kernel) rfl (Nat.le_of_ble_eq_true rfl) ?_
  intro p e s m below meth c A Q H hx hb hml hown hts hA hP hD hK hS hG hret ls hl
  have hown : s.vm.findClass RX4 = some m.cls := hown
  have hP : va_P D vwCl [(e0, .inr (3, [.ref e1, .ref e2, .ref e3, .ref e4, .ref e5, .ref e6, .int (nI ns), .int (nI ks), .int (nI LL)])), (e1, .inl (cI, 8, .inl (rI NE))), (e2, .inl (cI, 8, .inl (rI AL))), (e3, .inl (cI, 8, .inl (rI PI))), (e4, .inl (cI, 8, .inl (rI BE))), (e5, .inl (cI, 32, .inl (rI CO))), (e6, .inl (cI, 9, .inl (rI AH))), (o0, .inr (7, [.ref o1, .ref o2, .ref o3, .ref o4, .ref o5, .ref o6, .int (nI n), .int (nI k), .int wd, .int (bb wt)])), (o1, .inl (cI, 8, .inl xs)), (o2, .inl (cI, 8, .inl ys)), (o3, .inl (cI, 8, .inl rf)), (o4, .inl (cI, 8, .inl bo)), (o5, .inl (cI, 4, .inl pr)), (o6, .inl (cI, 4, .inl bu))] H := hP
  have hD : va_D A [(e0, .inr (3, [.ref e1, .ref e2, .ref e3, .ref e4, .ref e5, .ref e6, .int (nI ns), .int (nI ks), .int (nI LL)])), (e1, .inl (cI, 8, .inl (rI NE))), (e2, .inl (cI, 8, .inl (rI AL))), (e3, .inl (cI, 8, .inl (rI PI))), (e4, .inl (cI, 8, .inl (rI BE))), (e5, .inl (cI, 32, .inl (rI CO))), (e6, .inl (cI, 9, .inl (rI AH))), (o0, .inr (7, [.ref o1, .ref o2, .ref o3, .ref o4, .ref o5, .ref o6, .int (nI n), .int (nI k), .int wd, .int (bb wt)])), (o1, .inl (cI, 8, .inl xs)), (o2, .inl (cI, 8, .inl ys)), (o3, .inl (cI, 8, .inl rf)), (o4, .inl (cI, 8, .inl bo)), (o5, .inl (cI, 4, .inl pr)), (o6, .inl (cI, 4, .inl bu))] := hD
  have hl : lv_has ls 4 [(0, .ref e0), (1, .ref o0)] := hl
  have w_0 := hts (.fieldLink RX4 36 "UnlikeRoofs$Search" "houses" "I") (List.mem_of_getElem? (i := 1) (by rfl))
  have w_1 := hts (.fieldLink RX4 40 "UnlikeRoofs$Search" "sorts" "I") (List.mem_of_getElem? (i := 2) (by rfl))
  have w_2 := hts (.fieldLink RX4 24 "UnlikeRoofs$Search" "costs" "[I") (List.mem_of_getElem? (i := 3) (by rfl))
  have hin_X4 : ∀ w ∈ wsX40, w ∈ wsX4_costPrices := fun _ h => List.mem_cons_of_mem _ (List.mem_append_left _ (List.mem_append_right _ h))
  have _h0 : True := trivial
  refine lv_iconst (v := (0 : Int32)) hx hb dX4_costPrices_0 (by decide) ?_
  refine lv_istore_n (lv' := [(2, .int (0 : Int32)), (0, .ref e0), (1, .ref o0)]) hx hb dX4_costPrices_1 rfl hl (by decide) rfl (fun ls hl => ?_)
  have L_2 : ∀ (fuel : Nat) (COa : Nat → Nat) (i : Nat), (i ≤ n) → (∀ h, h < i → ∀ v, v < k → COa (h * 4 + v) = PR v) → (n - i) < fuel → ∀ (H : Heap) (locs : List Loc), va_P D vwCl [(e0, .inr (3, [.ref e1, .ref e2, .ref e3, .ref e4, .ref e5, .ref e6, .int (nI ns), .int (nI ks), .int (nI LL)])), (e1, .inl (cI, 8, .inl (rI NE))), (e2, .inl (cI, 8, .inl (rI AL))), (e3, .inl (cI, 8, .inl (rI PI))), (e4, .inl (cI, 8, .inl (rI BE))), (e5, .inl (cI, 32, .inl (rI COa))), (e6, .inl (cI, 9, .inl (rI AH))), (o0, .inr (7, [.ref o1, .ref o2, .ref o3, .ref o4, .ref o5, .ref o6, .int (nI n), .int (nI k), .int wd, .int (bb wt)])), (o1, .inl (cI, 8, .inl xs)), (o2, .inl (cI, 8, .inl ys)), (o3, .inl (cI, 8, .inl rf)), (o4, .inl (cI, 8, .inl bo)), (o5, .inl (cI, 4, .inl pr)), (o6, .inl (cI, 4, .inl bu))] H → va_D A [(e0, .inr (3, [.ref e1, .ref e2, .ref e3, .ref e4, .ref e5, .ref e6, .int (nI ns), .int (nI ks), .int (nI LL)])), (e1, .inl (cI, 8, .inl (rI NE))), (e2, .inl (cI, 8, .inl (rI AL))), (e3, .inl (cI, 8, .inl (rI PI))), (e4, .inl (cI, 8, .inl (rI BE))), (e5, .inl (cI, 32, .inl (rI COa))), (e6, .inl (cI, 9, .inl (rI AH))), (o0, .inr (7, [.ref o1, .ref o2, .ref o3, .ref o4, .ref o5, .ref o6, .int (nI n), .int (nI k), .int wd, .int (bb wt)])), (o1, .inl (cI, 8, .inl xs)), (o2, .inl (cI, 8, .inl ys)), (o3, .inl (cI, 8, .inl rf)), (o4, .inl (cI, 8, .inl bo)), (o5, .inl (cI, 4, .inl pr)), (o6, .inl (cI, 4, .inl bu))] → va_S A s.heap H locs → ∀ ls : Array Slot, lv_has ls 4 [(2, .int (nI i)), (0, .ref e0), (1, .ref o0)] → W p l e (xRm 2 42) s m ([.ref e0, .ref o0] : List Value).toArray below meth c H locs 0 0 Q (F0 m 2 ls []) := by
    intro fuel
    induction fuel with
    | zero =>
      intro COa i hi h1 hm
      exact absurd hm (Nat.not_lt_zero _)
    | succ fuel ih_2 =>
      intro COa i hi h1 hm_2 H locs hP hD hS ls hl
      refine lv_iload_n hx hb dX4_costPrices_2 rfl (lv_at hl 0 rfl) ?_
      refine lv_aload_n hx hb dX4_costPrices_3 rfl (lv_at hl 1 rfl) ?_
      refine va_get (D := D) (ci := 3) (v := .int (nI ns)) (C := RX4) (T := TX4) (N := 9) hx hb hts hin_X4 hown hK hP 0 rfl rfl 6 (by decide) w_0 (fun _ h9 => h9) rfl dX4_costPrices_4 ?_
      refine lv_icmp_ge (tgt := 47) hx hb dX4_costPrices_7 (by decide) (fun c_7 => ?_) (fun c_7 => ?_)
      ·
        have n_7 : ns ≤ i := (nI_leI (show ns < 2147483648 by omega) (show i < 2147483648 by omega)).1 c_7
        exact hret (COa) _ _ _ _ (fun h hh => h1 h (by omega)) hP hD hS dX4_costPrices_47
      ·
        have n_7 : i < ns := Nat.lt_of_not_le (fun q => c_7 ((nI_leI (show ns < 2147483648 by omega) (show i < 2147483648 by omega)).2 q))
        refine lv_iconst (v := (0 : Int32)) hx hb dX4_costPrices_10 (by decide) ?_
        refine lv_istore_n (lv' := [(3, .int (0 : Int32)), (2, .int (nI i)), (0, .ref e0), (1, .ref o0)]) hx hb dX4_costPrices_11 rfl hl (by decide) rfl (fun ls hl => ?_)
        have L_12 : ∀ (fuel : Nat) (COb : Nat → Nat) (j : Nat), (j ≤ k) → (∀ v, v < j → COb (i * 4 + v) = PR v) → (∀ x, x < i * 4 → COb x = COa x) → (k - j) < fuel → ∀ (H : Heap) (locs : List Loc), va_P D vwCl [(e0, .inr (3, [.ref e1, .ref e2, .ref e3, .ref e4, .ref e5, .ref e6, .int (nI ns), .int (nI ks), .int (nI LL)])), (e1, .inl (cI, 8, .inl (rI NE))), (e2, .inl (cI, 8, .inl (rI AL))), (e3, .inl (cI, 8, .inl (rI PI))), (e4, .inl (cI, 8, .inl (rI BE))), (e5, .inl (cI, 32, .inl (rI COb))), (e6, .inl (cI, 9, .inl (rI AH))), (o0, .inr (7, [.ref o1, .ref o2, .ref o3, .ref o4, .ref o5, .ref o6, .int (nI n), .int (nI k), .int wd, .int (bb wt)])), (o1, .inl (cI, 8, .inl xs)), (o2, .inl (cI, 8, .inl ys)), (o3, .inl (cI, 8, .inl rf)), (o4, .inl (cI, 8, .inl bo)), (o5, .inl (cI, 4, .inl pr)), (o6, .inl (cI, 4, .inl bu))] H → va_D A [(e0, .inr (3, [.ref e1, .ref e2, .ref e3, .ref e4, .ref e5, .ref e6, .int (nI ns), .int (nI ks), .int (nI LL)])), (e1, .inl (cI, 8, .inl (rI NE))), (e2, .inl (cI, 8, .inl (rI AL))), (e3, .inl (cI, 8, .inl (rI PI))), (e4, .inl (cI, 8, .inl (rI BE))), (e5, .inl (cI, 32, .inl (rI COb))), (e6, .inl (cI, 9, .inl (rI AH))), (o0, .inr (7, [.ref o1, .ref o2, .ref o3, .ref o4, .ref o5, .ref o6, .int (nI n), .int (nI k), .int wd, .int (bb wt)])), (o1, .inl (cI, 8, .inl xs)), (o2, .inl (cI, 8, .inl ys)), (o3, .inl (cI, 8, .inl rf)), (o4, .inl (cI, 8, .inl bo)), (o5, .inl (cI, 4, .inl pr)), (o6, .inl (cI, 4, .inl bu))] → va_S A s.heap H locs → ∀ ls : Array Slot, lv_has ls 4 [(3, .int (nI j)), (2, .int (nI i)), (0, .ref e0), (1, .ref o0)] → W p l e (xRm 2 42) s m ([.ref e0, .ref o0] : List Value).toArray below meth c H locs 0 0 Q (F0 m 12 ls []) := by
          intro fuel
          induction fuel with
          | zero =>
            intro COb j hj h2 h0 hm
            exact absurd hm (Nat.not_lt_zero _)
          | succ fuel ih_12 =>
            intro COb j hj h2 h0 hm_12 H locs hP hD hS ls hl
            refine lv_iload_n hx hb dX4_costPrices_12 rfl (lv_at hl 0 rfl) ?_
            refine lv_aload_n hx hb dX4_costPrices_13 rfl (lv_at hl 2 rfl) ?_
            refine va_get (D := D) (ci := 3) (v := .int (nI ks)) (C := RX4) (T := TX4) (N := 9) hx hb hts hin_X4 hown hK hP 0 rfl rfl 7 (by decide) w_1 (fun _ h9 => h9) rfl dX4_costPrices_14 ?_
            refine lv_icmp_ge (tgt := 41) hx hb dX4_costPrices_17 (by decide) (fun c_17 => ?_) (fun c_17 => ?_)
            ·
              have n_17 : ks ≤ j := (nI_leI (show ks < 2147483648 by omega) (show j < 2147483648 by omega)).1 c_17
              refine lv_iinc (v := nI (i + 1)) (lv' := [(2, .int (nI (i + 1))), (3, .int (nI j)), (0, .ref e0), (1, .ref o0)]) hx hb dX4_costPrices_41 hl (k := 1) rfl (by first | rfl | exact nI_add _ 1 | (simp only [] ; exact nI_add _ 1)) (by decide) rfl (fun ls hl => ?_)
              refine lv_goto (tgt := 2) hx hb dX4_costPrices_44 (by decide) ?_
              exact ih_2 COb (i + 1) (by omega) (cost_row h1 (fun v hv => h2 v (by omega)) h0) (by omega) _ _ hP hD hS _ (lv_sub hl [0, 2, 3] rfl)
            ·
              have n_17 : j < ks := Nat.lt_of_not_le (fun q => c_17 ((nI_leI (show ks < 2147483648 by omega) (show j < 2147483648 by omega)).2 q))
              refine lv_aload_n hx hb dX4_costPrices_20 rfl (lv_at hl 2 rfl) ?_
              refine va_get (D := D) (ci := 3) (v := .ref e5) (C := RX4) (T := TX4) (N := 9) hx hb hts hin_X4 hown hK hP 0 rfl rfl 4 (by decide) w_2 (fun _ h9 => h9) rfl dX4_costPrices_21 ?_
              refine lv_iload_n hx hb dX4_costPrices_24 rfl (lv_at hl 1 rfl) ?_
              refine lv_iconst (v := (4 : Int32)) hx hb dX4_costPrices_25 (by decide) ?_
              refine lv_imul hx hb dX4_costPrices_26 ?_
              refine lv_topr (x' := nI (i * 4)) (pk_mul i 4) ?_
              refine lv_iload_n hx hb dX4_costPrices_27 rfl (lv_at hl 0 rfl) ?_
              refine lv_iadd hx hb dX4_costPrices_28 ?_
              refine lv_topr (x' := nI ((i * 4) + j)) (nI_add (i * 4) j) ?_
              refine lv_aload_n hx hb dX4_costPrices_29 rfl (lv_at hl 3 rfl) ?_
              refine lv_iload_n hx hb dX4_costPrices_30 rfl (lv_at hl 0 rfl) ?_
              refine xcV_i (As := [.int (nI j)]) (rest := [.int (nI ((i * 4) + j)), .ref e5]) (wc := [(o0, .inr (7, [.ref o1, .ref o2, .ref o3, .ref o4, .ref o5, .ref o6, .int (nI n), .int (nI k), .int wd, .int (bb wt)])), (o1, .inl (cI, 8, .inl xs)), (o2, .inl (cI, 8, .inl ys)), (o3, .inl (cI, 8, .inl rf)), (o4, .inl (cI, 8, .inl bo)), (o5, .inl (cI, 4, .inl pr)), (o6, .inl (cI, 4, .inl bu))]) (wr := [(e0, .inr (3, [.ref e1, .ref e2, .ref e3, .ref e4, .ref e5, .ref e6, .int (nI ns), .int (nI ks), .int (nI LL)])), (e1, .inl (cI, 8, .inl (rI NE))), (e2, .inl (cI, 8, .inl (rI AL))), (e3, .inl (cI, 8, .inl (rI PI))), (e4, .inl (cI, 8, .inl (rI BE))), (e5, .inl (cI, 32, .inl (rI COb))), (e6, .inl (cI, 9, .inl (rI AH)))]) (w3 := fun (u : Unit) => [(e0, .inr (3, [.ref e1, .ref e2, .ref e3, .ref e4, .ref e5, .ref e6, .int (nI ns), .int (nI ks), .int (nI LL)])), (e1, .inl (cI, 8, .inl (rI NE))), (e2, .inl (cI, 8, .inl (rI AL))), (e3, .inl (cI, 8, .inl (rI PI))), (e4, .inl (cI, 8, .inl (rI BE))), (e5, .inl (cI, 32, .inl (rI COb))), (e6, .inl (cI, 9, .inl (rI AH))), (o0, .inr (7, [.ref o1, .ref o2, .ref o3, .ref o4, .ref o5, .ref o6, .int (nI n), .int (nI k), .int wd, .int (bb wt)])), (o1, .inl (cI, 8, .inl xs)), (o2, .inl (cI, 8, .inl ys)), (o3, .inl (cI, 8, .inl rf)), (o4, .inl (cI, 8, .inl bo)), (o5, .inl (cI, 4, .inl pr)), (o6, .inl (cI, 4, .inl bu))]) ⟨hx, hb, hml, hown, hts⟩ (c_X8_priceOf l D cI cZ cO H.size o0 o1 o2 o3 o4 o5 o6 xs ys rf bo pr bu n k wd wt (nI j) (by first | assumption | omega | rfl)) (cwV 1 hts gX4_costPrices_X8_priceOf rfl rfl rfl (by decide +kernel) ⟨Nat.le_of_ble_eq_true rfl, Nat.le_of_ble_eq_true rfl⟩) (xGdc gR gD gK gV) xGd0 (fun _ _ _ _ => trivial) hG hP hD hK hS hA [7, 8, 9, 10, 11, 12, 13] [0, 1, 2, 3, 4, 5, 6] [0, 1, 2, 3, 4, 5, 6, 7, 8, 9, 10, 11, 12, 13] rfl rfl rfl rfl rfl 7 rfl rfl rfl (fun _ => rfl) rfl rfl hl.1 (Nat.le_of_ble_eq_true rfl) dX4_costPrices_31 ⟨Nat.zero_le _, Nat.zero_le _⟩ (fun r u H locs hw hP hD hS => ?_)
              obtain ⟨rfl, hw⟩ := hw
              have hw_31 : True := hw
              have hP : va_P D vwCl [(e0, .inr (3, [.ref e1, .ref e2, .ref e3, .ref e4, .ref e5, .ref e6, .int (nI ns), .int (nI ks), .int (nI LL)])), (e1, .inl (cI, 8, .inl (rI NE))), (e2, .inl (cI, 8, .inl (rI AL))), (e3, .inl (cI, 8, .inl (rI PI))), (e4, .inl (cI, 8, .inl (rI BE))), (e5, .inl (cI, 32, .inl (rI COb))), (e6, .inl (cI, 9, .inl (rI AH))), (o0, .inr (7, [.ref o1, .ref o2, .ref o3, .ref o4, .ref o5, .ref o6, .int (nI n), .int (nI k), .int wd, .int (bb wt)])), (o1, .inl (cI, 8, .inl xs)), (o2, .inl (cI, 8, .inl ys)), (o3, .inl (cI, 8, .inl rf)), (o4, .inl (cI, 8, .inl bo)), (o5, .inl (cI, 4, .inl pr)), (o6, .inl (cI, 4, .inl bu))] H := hP
              have hD : va_D A [(e0, .inr (3, [.ref e1, .ref e2, .ref e3, .ref e4, .ref e5, .ref e6, .int (nI ns), .int (nI ks), .int (nI LL)])), (e1, .inl (cI, 8, .inl (rI NE))), (e2, .inl (cI, 8, .inl (rI AL))), (e3, .inl (cI, 8, .inl (rI PI))), (e4, .inl (cI, 8, .inl (rI BE))), (e5, .inl (cI, 32, .inl (rI COb))), (e6, .inl (cI, 9, .inl (rI AH))), (o0, .inr (7, [.ref o1, .ref o2, .ref o3, .ref o4, .ref o5, .ref o6, .int (nI n), .int (nI k), .int wd, .int (bb wt)])), (o1, .inl (cI, 8, .inl xs)), (o2, .inl (cI, 8, .inl ys)), (o3, .inl (cI, 8, .inl rf)), (o4, .inl (cI, 8, .inl bo)), (o5, .inl (cI, 4, .inl pr)), (o6, .inl (cI, 4, .inl bu))] := hD
              refine lv_topr (x' := nI (PR j)) ((prOf_t (by omega) (by omega)).trans (hpr j (by omega))) ?_
              refine x_iastN hx hb hK hP hD hS 5 0 rfl rfl (j := ((i * 4) + j)) (by omega) (by decide) dX4_costPrices_34 (fun H locs hP hD hS => ?_)
              have hP : va_P D vwCl [(e0, .inr (3, [.ref e1, .ref e2, .ref e3, .ref e4, .ref e5, .ref e6, .int (nI ns), .int (nI ks), .int (nI LL)])), (e1, .inl (cI, 8, .inl (rI NE))), (e2, .inl (cI, 8, .inl (rI AL))), (e3, .inl (cI, 8, .inl (rI PI))), (e4, .inl (cI, 8, .inl (rI BE))), (e5, .inl (cI, 32, .inl (rI (updN COb ((i * 4) + j) (PR j))))), (e6, .inl (cI, 9, .inl (rI AH))), (o0, .inr (7, [.ref o1, .ref o2, .ref o3, .ref o4, .ref o5, .ref o6, .int (nI n), .int (nI k), .int wd, .int (bb wt)])), (o1, .inl (cI, 8, .inl xs)), (o2, .inl (cI, 8, .inl ys)), (o3, .inl (cI, 8, .inl rf)), (o4, .inl (cI, 8, .inl bo)), (o5, .inl (cI, 4, .inl pr)), (o6, .inl (cI, 4, .inl bu))] H := hP
              have hD : va_D A [(e0, .inr (3, [.ref e1, .ref e2, .ref e3, .ref e4, .ref e5, .ref e6, .int (nI ns), .int (nI ks), .int (nI LL)])), (e1, .inl (cI, 8, .inl (rI NE))), (e2, .inl (cI, 8, .inl (rI AL))), (e3, .inl (cI, 8, .inl (rI PI))), (e4, .inl (cI, 8, .inl (rI BE))), (e5, .inl (cI, 32, .inl (rI (updN COb ((i * 4) + j) (PR j))))), (e6, .inl (cI, 9, .inl (rI AH))), (o0, .inr (7, [.ref o1, .ref o2, .ref o3, .ref o4, .ref o5, .ref o6, .int (nI n), .int (nI k), .int wd, .int (bb wt)])), (o1, .inl (cI, 8, .inl xs)), (o2, .inl (cI, 8, .inl ys)), (o3, .inl (cI, 8, .inl rf)), (o4, .inl (cI, 8, .inl bo)), (o5, .inl (cI, 4, .inl pr)), (o6, .inl (cI, 4, .inl bu))] := hD
              refine lv_iinc (v := nI (j + 1)) (lv' := [(3, .int (nI (j + 1))), (2, .int (nI i)), (0, .ref e0), (1, .ref o0)]) hx hb dX4_costPrices_35 hl (k := 0) rfl (by first | rfl | exact nI_add _ 1 | (simp only [] ; exact nI_add _ 1)) (by decide) rfl (fun ls hl => ?_)
              refine lv_goto (tgt := 12) hx hb dX4_costPrices_38 (by decide) ?_
              exact ih_12 (updN COb ((i * 4) + j) (PR j)) (j + 1) (by omega) (cost_in h2) (cost_off h0 (by omega)) (by omega) _ _ hP hD hS _ (lv_sub hl [0, 1, 2, 3] rfl)
        exact L_12 (Nat.succ (k - 0)) COa 0 (Nat.zero_le _) (fun _ q => absurd q (Nat.not_lt_zero _)) (fun _ _ => rfl) (Nat.lt_succ_self _) _ _ hP hD hS _ (lv_sub hl [0, 1, 2, 3] rfl)
  exact L_2 (Nat.succ (n - 0)) CO 0 (Nat.zero_le _) (fun _ q => absurd q (Nat.not_lt_zero _)) (Nat.lt_succ_self _) _ _ hP hD hS _ (lv_sub hl [0, 1, 2] rfl)

set_option maxHeartbeats 4000000 in
set_option maxRecDepth 100000 in
theorem c_X4_costOthers (l : Launch) (D : va_G) (cI cZ cO : ClassId) (sz : Nat) (gR : Nat) (gD : Nat) (gK : Nat → Nat) (gV : Nat → Nat) (e0 : Nat) (e1 : Nat) (e2 : Nat) (e3 : Nat) (e4 : Nat) (e5 : Nat) (e6 : Nat) (ns : Nat) (ks : Nat) (LL : Nat) (NE : Nat → Nat) (AL : Nat → Nat) (PI : Nat → Nat) (BE : Nat → Nat) (CO : Nat → Nat) (AH : Nat → Nat) (h : Nat) (hd : Int32) (hh : h < 8) (hks : ks ≤ 4) : xMv l yX4_costOthers wsX4_costOthers (0) (0) D (TY cI cZ cO) (xGc gR gD gK gV) [.ref e0, .int (nI h), .int hd] [(e0, .inr (3, [.ref e1, .ref e2, .ref e3, .ref e4, .ref e5, .ref e6, .int (nI ns), .int (nI ks), .int (nI LL)])), (e1, .inl (cI, 8, .inl (rI NE))), (e2, .inl (cI, 8, .inl (rI AL))), (e3, .inl (cI, 8, .inl (rI PI))), (e4, .inl (cI, 8, .inl (rI BE))), (e5, .inl (cI, 32, .inl (rI CO))), (e6, .inl (cI, 9, .inl (rI AH)))] sz (fun (u : (Nat → Nat)) => ((∀ v, v < ks → u (h * 4 + v) = (if nI v = hd then 0 else 1)) ∧ ∀ x, (x < h * 4 ∨ h * 4 + 4 ≤ x) → u x = CO x)) (fun (u : (Nat → Nat)) => [(e0, .inr (3, [.ref e1, .ref e2, .ref e3, .ref e4, .ref e5, .ref e6, .int (nI ns), .int (nI ks), .int (nI LL)])), (e1, .inl (cI, 8, .inl (rI NE))), (e2, .inl (cI, 8, .inl (rI AL))), (e3, .inl (cI, 8, .inl (rI PI))), (e4, .inl (cI, 8, .inl (rI BE))), (e5, .inl (cI, 32, .inl (rI u))), (e6, .inl (cI, 9, .inl (rI AH)))]) := by
  refine xMv.of (cc := cX4_costOthers) (maxL := 4) (by decide +kernel) rfl (Nat.le_of_ble_eq_true rfl) ?_
  intro p e s m below meth c A Q H hx hb hml hown hts hA hP hD hK hS hG hret ls hl
  have hown : s.vm.findClass RX4 = some m.cls := hown
  have hP : va_P D vwCl [(e0, .inr (3, [.ref e1, .ref e2, .ref e3, .ref e4, .ref e5, .ref e6, .int (nI ns), .int (nI ks), .int (nI LL)])), (e1, .inl (cI, 8, .inl (rI NE))), (e2, .inl (cI, 8, .inl (rI AL))), (e3, .inl (cI, 8, .inl (rI PI))), (e4, .inl (cI, 8, .inl (rI BE))), (e5, .inl (cI, 32, .inl (rI CO))), (e6, .inl (cI, 9, .inl (rI AH)))] H := hP
  have hD : va_D A [(e0, .inr (3, [.ref e1, .ref e2, .ref e3, .ref e4, .ref e5, .ref e6, .int (nI ns), .int (nI ks), .int (nI LL)])), (e1, .inl (cI, 8, .inl (rI NE))), (e2, .inl (cI, 8, .inl (rI AL))), (e3, .inl (cI, 8, .inl (rI PI))), (e4, .inl (cI, 8, .inl (rI BE))), (e5, .inl (cI, 32, .inl (rI CO))), (e6, .inl (cI, 9, .inl (rI AH)))] := hD
  have hl : lv_has ls 4 [(0, .ref e0), (1, .int (nI h)), (2, .int hd)] := hl
  have w_0 := hts (.fieldLink RX4 40 "UnlikeRoofs$Search" "sorts" "I") (List.mem_of_getElem? (i := 1) (by rfl))
  have w_1 := hts (.fieldLink RX4 24 "UnlikeRoofs$Search" "costs" "[I") (List.mem_of_getElem? (i := 2) (by rfl))
  have hin_X4 : ∀ w ∈ wsX40, w ∈ wsX4_costOthers := fun _ h => List.mem_cons_of_mem _ (List.mem_append_right _ h)
  have _h0 : True := trivial
  refine lv_iconst (v := (0 : Int32)) hx hb dX4_costOthers_0 (by decide) ?_
  refine lv_istore_n (lv' := [(3, .int (0 : Int32)), (0, .ref e0), (1, .int (nI h)), (2, .int hd)]) hx hb dX4_costOthers_1 rfl hl (by decide) rfl (fun ls hl => ?_)
  have L_2 : ∀ (fuel : Nat) (COb : Nat → Nat) (j : Nat), (j ≤ ks) → (∀ v, v < j → COb (h * 4 + v) = (if nI v = hd then 0 else 1)) → (∀ x, (x < h * 4 ∨ h * 4 + 4 ≤ x) → COb x = CO x) → (ks - j) < fuel → ∀ (H : Heap) (locs : List Loc), va_P D vwCl [(e0, .inr (3, [.ref e1, .ref e2, .ref e3, .ref e4, .ref e5, .ref e6, .int (nI ns), .int (nI ks), .int (nI LL)])), (e1, .inl (cI, 8, .inl (rI NE))), (e2, .inl (cI, 8, .inl (rI AL))), (e3, .inl (cI, 8, .inl (rI PI))), (e4, .inl (cI, 8, .inl (rI BE))), (e5, .inl (cI, 32, .inl (rI COb))), (e6, .inl (cI, 9, .inl (rI AH)))] H → va_D A [(e0, .inr (3, [.ref e1, .ref e2, .ref e3, .ref e4, .ref e5, .ref e6, .int (nI ns), .int (nI ks), .int (nI LL)])), (e1, .inl (cI, 8, .inl (rI NE))), (e2, .inl (cI, 8, .inl (rI AL))), (e3, .inl (cI, 8, .inl (rI PI))), (e4, .inl (cI, 8, .inl (rI BE))), (e5, .inl (cI, 32, .inl (rI COb))), (e6, .inl (cI, 9, .inl (rI AH)))] → va_S A s.heap H locs → ∀ ls : Array Slot, lv_has ls 4 [(3, .int (nI j)), (0, .ref e0), (1, .int (nI h)), (2, .int hd)] → W p l e (xRm 0 0) s m ([.ref e0, .int (nI h), .int hd] : List Value).toArray below meth c H locs 0 0 Q (F0 m 2 ls []) := by
    intro fuel
    induction fuel with
    | zero =>
      intro COb j hj h2 h0 hm
      exact absurd hm (Nat.not_lt_zero _)
    | succ fuel ih_2 =>
      intro COb j hj h2 h0 hm_2 H locs hP hD hS ls hl
      refine lv_iload_n hx hb dX4_costOthers_2 rfl (lv_at hl 0 rfl) ?_
      refine lv_aload_n hx hb dX4_costOthers_3 rfl (lv_at hl 1 rfl) ?_
      refine va_get (D := D) (ci := 3) (v := .int (nI ks)) (C := RX4) (T := TX4) (N := 9) hx hb hts hin_X4 hown hK hP 0 rfl rfl 7 (by decide) w_0 (fun _ h9 => h9) rfl dX4_costOthers_4 ?_
      refine lv_icmp_ge (tgt := 36) hx hb dX4_costOthers_7 (by decide) (fun c_7 => ?_) (fun c_7 => ?_)
      ·
        have n_7 : ks ≤ j := (nI_leI (show ks < 2147483648 by omega) (show j < 2147483648 by omega)).1 c_7
        exact hret (COb) _ _ _ _ (⟨fun v hv => h2 v (by omega), h0⟩) hP hD hS dX4_costOthers_36
      ·
        have n_7 : j < ks := Nat.lt_of_not_le (fun q => c_7 ((nI_leI (show ks < 2147483648 by omega) (show j < 2147483648 by omega)).2 q))
        refine lv_aload_n hx hb dX4_costOthers_10 rfl (lv_at hl 1 rfl) ?_
        refine va_get (D := D) (ci := 3) (v := .ref e5) (C := RX4) (T := TX4) (N := 9) hx hb hts hin_X4 hown hK hP 0 rfl rfl 4 (by decide) w_1 (fun _ h9 => h9) rfl dX4_costOthers_11 ?_
        refine lv_iload_n hx hb dX4_costOthers_14 rfl (lv_at hl 2 rfl) ?_
        refine lv_iconst (v := (4 : Int32)) hx hb dX4_costOthers_15 (by decide) ?_
        refine lv_imul hx hb dX4_costOthers_16 ?_
        refine lv_topr (x' := nI (h * 4)) (pk_mul h 4) ?_
        refine lv_iload_n hx hb dX4_costOthers_17 rfl (lv_at hl 0 rfl) ?_
        refine lv_iadd hx hb dX4_costOthers_18 ?_
        refine lv_topr (x' := nI ((h * 4) + j)) (nI_add (h * 4) j) ?_
        refine lv_iload_n hx hb dX4_costOthers_19 rfl (lv_at hl 0 rfl) ?_
        refine lv_iload_n hx hb dX4_costOthers_20 rfl (lv_at hl 3 rfl) ?_
        refine lv_icmp_ne (tgt := 28) hx hb dX4_costOthers_21 (by decide) (fun c_21 => ?_) (fun c_21 => ?_)
        ·
          refine lv_iconst (v := (1 : Int32)) hx hb dX4_costOthers_28 (by decide) ?_
          refine x_iastN hx hb hK hP hD hS 5 0 rfl rfl (j := ((h * 4) + j)) (by omega) (by decide) dX4_costOthers_29 (fun H locs hP hD hS => ?_)
          have hP : va_P D vwCl [(e0, .inr (3, [.ref e1, .ref e2, .ref e3, .ref e4, .ref e5, .ref e6, .int (nI ns), .int (nI ks), .int (nI LL)])), (e1, .inl (cI, 8, .inl (rI NE))), (e2, .inl (cI, 8, .inl (rI AL))), (e3, .inl (cI, 8, .inl (rI PI))), (e4, .inl (cI, 8, .inl (rI BE))), (e5, .inl (cI, 32, .inl (rI (updN COb ((h * 4) + j) 1)))), (e6, .inl (cI, 9, .inl (rI AH)))] H := hP
          have hD : va_D A [(e0, .inr (3, [.ref e1, .ref e2, .ref e3, .ref e4, .ref e5, .ref e6, .int (nI ns), .int (nI ks), .int (nI LL)])), (e1, .inl (cI, 8, .inl (rI NE))), (e2, .inl (cI, 8, .inl (rI AL))), (e3, .inl (cI, 8, .inl (rI PI))), (e4, .inl (cI, 8, .inl (rI BE))), (e5, .inl (cI, 32, .inl (rI (updN COb ((h * 4) + j) 1)))), (e6, .inl (cI, 9, .inl (rI AH)))] := hD
          refine lv_iinc (v := nI (j + 1)) (lv' := [(3, .int (nI (j + 1))), (0, .ref e0), (1, .int (nI h)), (2, .int hd)]) hx hb dX4_costOthers_30 hl (k := 0) rfl (by first | rfl | exact nI_add _ 1 | (simp only [] ; exact nI_add _ 1)) (by decide) rfl (fun ls hl => ?_)
          refine lv_goto (tgt := 2) hx hb dX4_costOthers_33 (by decide) ?_
          exact ih_2 (updN COb ((h * 4) + j) 1) (j + 1) (by omega) (cost_in2 h2 (by first | exact (if_pos c_21).symm | exact (if_neg c_21).symm)) (cost_off2 h0 (by omega)) (by omega) _ _ hP hD hS _ (lv_sub hl [0, 1, 2, 3] rfl)
        ·
          refine lv_iconst (v := (0 : Int32)) hx hb dX4_costOthers_24 (by decide) ?_
          refine lv_goto (tgt := 29) hx hb dX4_costOthers_25 (by decide) ?_
          refine x_iastN hx hb hK hP hD hS 5 0 rfl rfl (j := ((h * 4) + j)) (by omega) (by decide) dX4_costOthers_29 (fun H locs hP hD hS => ?_)
          have hP : va_P D vwCl [(e0, .inr (3, [.ref e1, .ref e2, .ref e3, .ref e4, .ref e5, .ref e6, .int (nI ns), .int (nI ks), .int (nI LL)])), (e1, .inl (cI, 8, .inl (rI NE))), (e2, .inl (cI, 8, .inl (rI AL))), (e3, .inl (cI, 8, .inl (rI PI))), (e4, .inl (cI, 8, .inl (rI BE))), (e5, .inl (cI, 32, .inl (rI (updN COb ((h * 4) + j) 0)))), (e6, .inl (cI, 9, .inl (rI AH)))] H := hP
          have hD : va_D A [(e0, .inr (3, [.ref e1, .ref e2, .ref e3, .ref e4, .ref e5, .ref e6, .int (nI ns), .int (nI ks), .int (nI LL)])), (e1, .inl (cI, 8, .inl (rI NE))), (e2, .inl (cI, 8, .inl (rI AL))), (e3, .inl (cI, 8, .inl (rI PI))), (e4, .inl (cI, 8, .inl (rI BE))), (e5, .inl (cI, 32, .inl (rI (updN COb ((h * 4) + j) 0)))), (e6, .inl (cI, 9, .inl (rI AH)))] := hD
          refine lv_iinc (v := nI (j + 1)) (lv' := [(3, .int (nI (j + 1))), (0, .ref e0), (1, .int (nI h)), (2, .int hd)]) hx hb dX4_costOthers_30 hl (k := 0) rfl (by first | rfl | exact nI_add _ 1 | (simp only [] ; exact nI_add _ 1)) (by decide) rfl (fun ls hl => ?_)
          refine lv_goto (tgt := 2) hx hb dX4_costOthers_33 (by decide) ?_
          exact ih_2 (updN COb ((h * 4) + j) 0) (j + 1) (by omega) (cost_in2 h2 (by first | exact (if_pos c_21).symm | exact (if_neg c_21).symm)) (cost_off2 h0 (by omega)) (by omega) _ _ hP hD hS _ (lv_sub hl [0, 1, 2, 3] rfl)
  exact L_2 (Nat.succ (ks - 0)) CO 0 (Nat.zero_le _) (fun _ q => absurd q (Nat.not_lt_zero _)) (fun _ _ => rfl) (Nat.lt_succ_self _) _ _ hP hD hS _ (lv_sub hl [0, 1, 2, 3] rfl)

set_option maxHeartbeats 4000000 in
set_option maxRecDepth 100000 in
theorem c_X4_costChangesBut (l : Launch) (D : va_G) (cI cZ cO : ClassId) (sz : Nat) (gR : Nat) (gD : Nat) (gK : Nat → Nat) (gV : Nat → Nat) (e0 : Nat) (e1 : Nat) (e2 : Nat) (e3 : Nat) (e4 : Nat) (e5 : Nat) (e6 : Nat) (ns : Nat) (ks : Nat) (LL : Nat) (NE : Nat → Nat) (AL : Nat → Nat) (PI : Nat → Nat) (BE : Nat → Nat) (CO : Nat → Nat) (AH : Nat → Nat) (o0 : Nat) (o1 : Nat) (o2 : Nat) (o3 : Nat) (o4 : Nat) (o5 : Nat) (o6 : Nat) (xs : Nat → Int32) (ys : Nat → Int32) (rf : Nat → Int32) (bo : Nat → Int32) (pr : Nat → Int32) (bu : Nat → Int32) (n : Nat) (k : Nat) (wd : Int32) (wt : Bool) (ch : Nat) (sv : Nat) (hn : n ≤ 8) (hk : k ≤ 4) (hns : ns = n) (hks : ks = k) (hch : ch < n) (hsv : sv < k) : xMv l yX4_costChangesBut wsX4_costChangesBut (1) (23) D (TY cI cZ cO) (xGc gR gD gK gV) [.ref e0, .ref o0, .int (nI ch), .int (nI sv)] [(e0, .inr (3, [.ref e1, .ref e2, .ref e3, .ref e4, .ref e5, .ref e6, .int (nI ns), .int (nI ks), .int (nI LL)])), (e1, .inl (cI, 8, .inl (rI NE))), (e2, .inl (cI, 8, .inl (rI AL))), (e3, .inl (cI, 8, .inl (rI PI))), (e4, .inl (cI, 8, .inl (rI BE))), (e5, .inl (cI, 32, .inl (rI CO))), (e6, .inl (cI, 9, .inl (rI AH))), (o0, .inr (7, [.ref o1, .ref o2, .ref o3, .ref o4, .ref o5, .ref o6, .int (nI n), .int (nI k), .int wd, .int (bb wt)])), (o1, .inl (cI, 8, .inl xs)), (o2, .inl (cI, 8, .inl ys)), (o3, .inl (cI, 8, .inl rf)), (o4, .inl (cI, 8, .inl bo)), (o5, .inl (cI, 4, .inl pr)), (o6, .inl (cI, 4, .inl bu))] sz (fun (u : (Nat → Nat) × (Nat → Nat)) => ((∀ h, h < n → (u.1) h = (if h = ch then 2 ^ sv else AL h)) ∧ ∀ h, h < n → ∀ v, v < k → (u.2) (h * 4 + v) = (if h = ch then CO (h * 4 + v) else if nI v = rf h then 0 else 1))) (fun (u : (Nat → Nat) × (Nat → Nat)) => [(e0, .inr (3, [.ref e1, .ref e2, .ref e3, .ref e4, .ref e5, .ref e6, .int (nI ns), .int (nI ks), .int (nI LL)])), (e1, .inl (cI, 8, .inl (rI NE))), (e2, .inl (cI, 8, .inl (rI (u.1)))), (e3, .inl (cI, 8, .inl (rI PI))), (e4, .inl (cI, 8, .inl (rI BE))), (e5, .inl (cI, 32, .inl (rI (u.2)))), (e6, .inl (cI, 9, .inl (rI AH))), (o0, .inr (7, [.ref o1, .ref o2, .ref o3, .ref o4, .ref o5, .ref o6, .int (nI n), .int (nI k), .int wd, .int (bb wt)])), (o1, .inl (cI, 8, .inl xs)), (o2, .inl (cI, 8, .inl ys)), (o3, .inl (cI, 8, .inl rf)), (o4, .inl (cI, 8, .inl bo)), (o5, .inl (cI, 4, .inl pr)), (o6, .inl (cI, 4, .inl bu))]) := by
  refine xMv.of (cc := cX4_costChangesBut) (maxL := 5) (by decide +kernel) rfl (Nat.le_of_ble_eq_true rfl) ?_
  intro p e s m below meth c A Q H hx hb hml hown hts hA hP hD hK hS hG hret ls hl
  have hown : s.vm.findClass RX4 = some m.cls := hown
  have hP : va_P D vwCl [(e0, .inr (3, [.ref e1, .ref e2, .ref e3, .ref e4, .ref e5, .ref e6, .int (nI ns), .int (nI ks), .int (nI LL)])), (e1, .inl (cI, 8, .inl (rI NE))), (e2, .inl (cI, 8, .inl (rI AL))), (e3, .inl (cI, 8, .inl (rI PI))), (e4, .inl (cI, 8, .inl (rI BE))), (e5, .inl (cI, 32, .inl (rI CO))), (e6, .inl (cI, 9, .inl (rI AH))), (o0, .inr (7, [.ref o1, .ref o2, .ref o3, .ref o4, .ref o5, .ref o6, .int (nI n), .int (nI k), .int wd, .int (bb wt)])), (o1, .inl (cI, 8, .inl xs)), (o2, .inl (cI, 8, .inl ys)), (o3, .inl (cI, 8, .inl rf)), (o4, .inl (cI, 8, .inl bo)), (o5, .inl (cI, 4, .inl pr)), (o6, .inl (cI, 4, .inl bu))] H := hP
  have hD : va_D A [(e0, .inr (3, [.ref e1, .ref e2, .ref e3, .ref e4, .ref e5, .ref e6, .int (nI ns), .int (nI ks), .int (nI LL)])), (e1, .inl (cI, 8, .inl (rI NE))), (e2, .inl (cI, 8, .inl (rI AL))), (e3, .inl (cI, 8, .inl (rI PI))), (e4, .inl (cI, 8, .inl (rI BE))), (e5, .inl (cI, 32, .inl (rI CO))), (e6, .inl (cI, 9, .inl (rI AH))), (o0, .inr (7, [.ref o1, .ref o2, .ref o3, .ref o4, .ref o5, .ref o6, .int (nI n), .int (nI k), .int wd, .int (bb wt)])), (o1, .inl (cI, 8, .inl xs)), (o2, .inl (cI, 8, .inl ys)), (o3, .inl (cI, 8, .inl rf)), (o4, .inl (cI, 8, .inl bo)), (o5, .inl (cI, 4, .inl pr)), (o6, .inl (cI, 4, .inl bu))] := hD
  have hl : lv_has ls 5 [(0, .ref e0), (1, .ref o0), (2, .int (nI ch)), (3, .int (nI sv))] := hl
  have w_0 := hts (.fieldLink RX4 36 "UnlikeRoofs$Search" "houses" "I") (List.mem_of_getElem? (i := 1) (by rfl))
  have w_1 := hts (.fieldLink RX4 15 "UnlikeRoofs$Search" "allowed" "[I") (List.mem_of_getElem? (i := 2) (by rfl))
  have wn_0 : (Cond.fieldLinkNest RX4 51 "UnlikeRoofs$Town" "roofs" "[I" "UnlikeRoofs").before ([.ref e0, .ref o0, .int (nI ch), .int (nI sv)] : List Value).toArray s = true := va_Nw.use rfl (hG.1 (.fieldLinkNest RX4 51 "UnlikeRoofs$Town" "roofs" "[I" "UnlikeRoofs") (List.mem_of_getElem? (i := 14) (by rfl)))
  have hin_X4 : ∀ w ∈ wsX40, w ∈ wsX4_costChangesBut := fun _ h => List.mem_cons_of_mem _ (List.mem_append_left _ (List.mem_append_right _ h))
  have hin_X8 : ∀ w ∈ wsX80, w ∈ wsX4_costChangesBut := fun _ h => List.mem_cons_of_mem _ (List.mem_append_right _ h)
  have _h0 : True := trivial
  refine lv_iconst (v := (0 : Int32)) hx hb dX4_costChangesBut_0 (by decide) ?_
  refine lv_istore (lv' := [(4, .int (0 : Int32)), (0, .ref e0), (1, .ref o0), (2, .int (nI ch)), (3, .int (nI sv))]) hx hb dX4_costChangesBut_1 hl (by decide) rfl (fun ls hl => ?_)
  have L_3 : ∀ (fuel : Nat) (ALa : Nat → Nat) (COa : Nat → Nat) (i : Nat), (i ≤ n) → (∀ h, ALa h = (if h = ch ∧ h < i then 2 ^ sv else AL h)) → (∀ h, h < i → ∀ v, v < k → COa (h * 4 + v) = (if h = ch then CO (h * 4 + v) else if nI v = rf h then 0 else 1)) → (∀ x, i * 4 ≤ x → COa x = CO x) → (n - i) < fuel → ∀ (H : Heap) (locs : List Loc), va_P D vwCl [(e0, .inr (3, [.ref e1, .ref e2, .ref e3, .ref e4, .ref e5, .ref e6, .int (nI ns), .int (nI ks), .int (nI LL)])), (e1, .inl (cI, 8, .inl (rI NE))), (e2, .inl (cI, 8, .inl (rI ALa))), (e3, .inl (cI, 8, .inl (rI PI))), (e4, .inl (cI, 8, .inl (rI BE))), (e5, .inl (cI, 32, .inl (rI COa))), (e6, .inl (cI, 9, .inl (rI AH))), (o0, .inr (7, [.ref o1, .ref o2, .ref o3, .ref o4, .ref o5, .ref o6, .int (nI n), .int (nI k), .int wd, .int (bb wt)])), (o1, .inl (cI, 8, .inl xs)), (o2, .inl (cI, 8, .inl ys)), (o3, .inl (cI, 8, .inl rf)), (o4, .inl (cI, 8, .inl bo)), (o5, .inl (cI, 4, .inl pr)), (o6, .inl (cI, 4, .inl bu))] H → va_D A [(e0, .inr (3, [.ref e1, .ref e2, .ref e3, .ref e4, .ref e5, .ref e6, .int (nI ns), .int (nI ks), .int (nI LL)])), (e1, .inl (cI, 8, .inl (rI NE))), (e2, .inl (cI, 8, .inl (rI ALa))), (e3, .inl (cI, 8, .inl (rI PI))), (e4, .inl (cI, 8, .inl (rI BE))), (e5, .inl (cI, 32, .inl (rI COa))), (e6, .inl (cI, 9, .inl (rI AH))), (o0, .inr (7, [.ref o1, .ref o2, .ref o3, .ref o4, .ref o5, .ref o6, .int (nI n), .int (nI k), .int wd, .int (bb wt)])), (o1, .inl (cI, 8, .inl xs)), (o2, .inl (cI, 8, .inl ys)), (o3, .inl (cI, 8, .inl rf)), (o4, .inl (cI, 8, .inl bo)), (o5, .inl (cI, 4, .inl pr)), (o6, .inl (cI, 4, .inl bu))] → va_S A s.heap H locs → ∀ ls : Array Slot, lv_has ls 5 [(4, .int (nI i)), (0, .ref e0), (1, .ref o0), (2, .int (nI ch)), (3, .int (nI sv))] → W p l e (xRm 1 23) s m ([.ref e0, .ref o0, .int (nI ch), .int (nI sv)] : List Value).toArray below meth c H locs 0 0 Q (F0 m 3 ls []) := by
    intro fuel
    induction fuel with
    | zero =>
      intro ALa COa i hi h1 h2 h3 hm
      exact absurd hm (Nat.not_lt_zero _)
    | succ fuel ih_3 =>
      intro ALa COa i hi h1 h2 h3 hm_3 H locs hP hD hS ls hl
      refine lv_iload hx hb dX4_costChangesBut_3 (lv_at hl 0 rfl) ?_
      refine lv_aload_n hx hb dX4_costChangesBut_5 rfl (lv_at hl 1 rfl) ?_
      refine va_get (D := D) (ci := 3) (v := .int (nI ns)) (C := RX4) (T := TX4) (N := 9) hx hb hts hin_X4 hown hK hP 0 rfl rfl 6 (by decide) w_0 (fun _ h9 => h9) rfl dX4_costChangesBut_6 ?_
      refine lv_icmp_ge (tgt := 50) hx hb dX4_costChangesBut_9 (by decide) (fun c_9 => ?_) (fun c_9 => ?_)
      ·
        have n_9 : ns ≤ i := (nI_leI (show ns < 2147483648 by omega) (show i < 2147483648 by omega)).1 c_9
        exact hret (ALa, COa) _ _ _ _ (⟨chg_alf h1 (by omega), fun h hh => h2 h (by omega)⟩) hP hD hS dX4_costChangesBut_50
      ·
        have n_9 : i < ns := Nat.lt_of_not_le (fun q => c_9 ((nI_leI (show ns < 2147483648 by omega) (show i < 2147483648 by omega)).2 q))
        refine lv_iload hx hb dX4_costChangesBut_12 (lv_at hl 0 rfl) ?_
        refine lv_iload_n hx hb dX4_costChangesBut_14 rfl (lv_at hl 3 rfl) ?_
        refine lv_icmp_ne (tgt := 31) hx hb dX4_costChangesBut_15 (by decide) (fun c_15 => ?_) (fun c_15 => ?_)
        ·
          have n_15 : ¬ i = ch := fun q => c_15 (congrArg nI q)
          refine lv_aload_n hx hb dX4_costChangesBut_31 rfl (lv_at hl 1 rfl) ?_
          refine lv_iload hx hb dX4_costChangesBut_32 (lv_at hl 0 rfl) ?_
          refine lv_aload_n hx hb dX4_costChangesBut_34 rfl (lv_at hl 2 rfl) ?_
          refine va_getN (D := D) (ci := 7) (v := .ref o3) (C := RX8) (T := TX8) (N := 10) hx hb hts hin_X8 hown hK hP 7 rfl rfl 2 (by decide) wn_0 (fun _ h9 => h9) rfl dX4_costChangesBut_35 ?_
          refine lv_iload hx hb dX4_costChangesBut_38 (lv_at hl 0 rfl) ?_
          refine x_iald hx hb hK hP 10 0 rfl rfl (j := i) (by omega) (by decide) dX4_costChangesBut_40 ?_
          refine xcV_v (As := [.int (nI i), .int (rf i)]) (rest := []) (wc := [(e0, .inr (3, [.ref e1, .ref e2, .ref e3, .ref e4, .ref e5, .ref e6, .int (nI ns), .int (nI ks), .int (nI LL)])), (e1, .inl (cI, 8, .inl (rI NE))), (e2, .inl (cI, 8, .inl (rI ALa))), (e3, .inl (cI, 8, .inl (rI PI))), (e4, .inl (cI, 8, .inl (rI BE))), (e5, .inl (cI, 32, .inl (rI COa))), (e6, .inl (cI, 9, .inl (rI AH)))]) (wr := [(o0, .inr (7, [.ref o1, .ref o2, .ref o3, .ref o4, .ref o5, .ref o6, .int (nI n), .int (nI k), .int wd, .int (bb wt)])), (o1, .inl (cI, 8, .inl xs)), (o2, .inl (cI, 8, .inl ys)), (o3, .inl (cI, 8, .inl rf)), (o4, .inl (cI, 8, .inl bo)), (o5, .inl (cI, 4, .inl pr)), (o6, .inl (cI, 4, .inl bu))]) (w3 := fun (u : (Nat → Nat)) => [(e0, .inr (3, [.ref e1, .ref e2, .ref e3, .ref e4, .ref e5, .ref e6, .int (nI ns), .int (nI ks), .int (nI LL)])), (e1, .inl (cI, 8, .inl (rI NE))), (e2, .inl (cI, 8, .inl (rI ALa))), (e3, .inl (cI, 8, .inl (rI PI))), (e4, .inl (cI, 8, .inl (rI BE))), (e5, .inl (cI, 32, .inl (rI u))), (e6, .inl (cI, 9, .inl (rI AH))), (o0, .inr (7, [.ref o1, .ref o2, .ref o3, .ref o4, .ref o5, .ref o6, .int (nI n), .int (nI k), .int wd, .int (bb wt)])), (o1, .inl (cI, 8, .inl xs)), (o2, .inl (cI, 8, .inl ys)), (o3, .inl (cI, 8, .inl rf)), (o4, .inl (cI, 8, .inl bo)), (o5, .inl (cI, 4, .inl pr)), (o6, .inl (cI, 4, .inl bu))]) ⟨hx, hb, hml, hown, hts⟩ (c_X4_costOthers l D cI cZ cO H.size gR gD gK gV e0 e1 e2 e3 e4 e5 e6 ns ks LL NE ALa PI BE COa AH i (rf i) (by first | assumption | omega | rfl) (by first | assumption | omega | rfl)) (cwV 2 hts gX4_costChangesBut_X4_costOthers rfl rfl rfl (by decide +kernel) ⟨Nat.le_of_ble_eq_true rfl, Nat.le_of_ble_eq_true rfl⟩) (xGdc gR gD gK gV) (xGdc gR gD gK gV) (fun _ _ _ h => h) hG hP hD hK hS hA [0, 1, 2, 3, 4, 5, 6] [7, 8, 9, 10, 11, 12, 13] [7, 8, 9, 10, 11, 12, 13, 0, 1, 2, 3, 4, 5, 6] rfl rfl rfl rfl rfl 0 rfl rfl rfl (fun _ => rfl) rfl rfl hl.1 (Nat.le_of_ble_eq_true rfl) dX4_costChangesBut_41 ⟨Nat.zero_le _, Nat.zero_le _⟩ (fun u H locs hw hP hD hS => ?_)
          obtain ⟨z_1, rfl⟩ : ∃ z, z = u := ⟨_, rfl⟩
          have hw_41 : (∀ v, v < ks → z_1 (i * 4 + v) = (if nI v = (rf i) then 0 else 1)) ∧ ∀ x, (x < i * 4 ∨ i * 4 + 4 ≤ x) → z_1 x = COa x := hw
          have hP : va_P D vwCl [(e0, .inr (3, [.ref e1, .ref e2, .ref e3, .ref e4, .ref e5, .ref e6, .int (nI ns), .int (nI ks), .int (nI LL)])), (e1, .inl (cI, 8, .inl (rI NE))), (e2, .inl (cI, 8, .inl (rI ALa))), (e3, .inl (cI, 8, .inl (rI PI))), (e4, .inl (cI, 8, .inl (rI BE))), (e5, .inl (cI, 32, .inl (rI z_1))), (e6, .inl (cI, 9, .inl (rI AH))), (o0, .inr (7, [.ref o1, .ref o2, .ref o3, .ref o4, .ref o5, .ref o6, .int (nI n), .int (nI k), .int wd, .int (bb wt)])), (o1, .inl (cI, 8, .inl xs)), (o2, .inl (cI, 8, .inl ys)), (o3, .inl (cI, 8, .inl rf)), (o4, .inl (cI, 8, .inl bo)), (o5, .inl (cI, 4, .inl pr)), (o6, .inl (cI, 4, .inl bu))] H := hP
          have hD : va_D A [(e0, .inr (3, [.ref e1, .ref e2, .ref e3, .ref e4, .ref e5, .ref e6, .int (nI ns), .int (nI ks), .int (nI LL)])), (e1, .inl (cI, 8, .inl (rI NE))), (e2, .inl (cI, 8, .inl (rI ALa))), (e3, .inl (cI, 8, .inl (rI PI))), (e4, .inl (cI, 8, .inl (rI BE))), (e5, .inl (cI, 32, .inl (rI z_1))), (e6, .inl (cI, 9, .inl (rI AH))), (o0, .inr (7, [.ref o1, .ref o2, .ref o3, .ref o4, .ref o5, .ref o6, .int (nI n), .int (nI k), .int wd, .int (bb wt)])), (o1, .inl (cI, 8, .inl xs)), (o2, .inl (cI, 8, .inl ys)), (o3, .inl (cI, 8, .inl rf)), (o4, .inl (cI, 8, .inl bo)), (o5, .inl (cI, 4, .inl pr)), (o6, .inl (cI, 4, .inl bu))] := hD
          refine lv_iinc (v := nI (i + 1)) (lv' := [(4, .int (nI (i + 1))), (0, .ref e0), (1, .ref o0), (2, .int (nI ch)), (3, .int (nI sv))]) hx hb dX4_costChangesBut_44 hl (k := 0) rfl (by first | rfl | exact nI_add _ 1 | (simp only [] ; exact nI_add _ 1)) (by decide) rfl (fun ls hl => ?_)
          refine lv_goto (tgt := 3) hx hb dX4_costChangesBut_47 (by decide) ?_
          exact ih_3 ALa z_1 (i + 1) (by omega) (chg_al2 h1 n_15) (chg_co2 h2 n_15 (by rw [hks] at hw_41; exact hw_41.1) hw_41.2 hk) (fun x hx => (hw_41.2 x (by omega)).trans (h3 x (by omega))) (by omega) _ _ hP hD hS _ (lv_sub hl [0, 1, 2, 3, 4] rfl)
        ·
          have n_15 : i = ch := (nI_eq (show i < 2147483648 by omega) (show ch < 2147483648 by omega)).1 c_15
          refine lv_aload_n hx hb dX4_costChangesBut_18 rfl (lv_at hl 1 rfl) ?_
          refine va_get (D := D) (ci := 3) (v := .ref e2) (C := RX4) (T := TX4) (N := 9) hx hb hts hin_X4 hown hK hP 0 rfl rfl 1 (by decide) w_1 (fun _ h9 => h9) rfl dX4_costChangesBut_19 ?_
          refine lv_iload hx hb dX4_costChangesBut_22 (lv_at hl 0 rfl) ?_
          refine lv_iconst (v := (1 : Int32)) hx hb dX4_costChangesBut_24 (by decide) ?_
          refine lv_iload_n hx hb dX4_costChangesBut_25 rfl (lv_at hl 4 rfl) ?_
          refine lv_ishl hx hb dX4_costChangesBut_26 ?_
          refine lv_topr (x' := nI (2 ^ sv)) (sh1 (by omega)) ?_
          refine x_iastN hx hb hK hP hD hS 2 0 rfl rfl (j := i) (by omega) (by decide) dX4_costChangesBut_27 (fun H locs hP hD hS => ?_)
          have hP : va_P D vwCl [(e0, .inr (3, [.ref e1, .ref e2, .ref e3, .ref e4, .ref e5, .ref e6, .int (nI ns), .int (nI ks), .int (nI LL)])), (e1, .inl (cI, 8, .inl (rI NE))), (e2, .inl (cI, 8, .inl (rI (updN ALa i (2 ^ sv))))), (e3, .inl (cI, 8, .inl (rI PI))), (e4, .inl (cI, 8, .inl (rI BE))), (e5, .inl (cI, 32, .inl (rI COa))), (e6, .inl (cI, 9, .inl (rI AH))), (o0, .inr (7, [.ref o1, .ref o2, .ref o3, .ref o4, .ref o5, .ref o6, .int (nI n), .int (nI k), .int wd, .int (bb wt)])), (o1, .inl (cI, 8, .inl xs)), (o2, .inl (cI, 8, .inl ys)), (o3, .inl (cI, 8, .inl rf)), (o4, .inl (cI, 8, .inl bo)), (o5, .inl (cI, 4, .inl pr)), (o6, .inl (cI, 4, .inl bu))] H := hP
          have hD : va_D A [(e0, .inr (3, [.ref e1, .ref e2, .ref e3, .ref e4, .ref e5, .ref e6, .int (nI ns), .int (nI ks), .int (nI LL)])), (e1, .inl (cI, 8, .inl (rI NE))), (e2, .inl (cI, 8, .inl (rI (updN ALa i (2 ^ sv))))), (e3, .inl (cI, 8, .inl (rI PI))), (e4, .inl (cI, 8, .inl (rI BE))), (e5, .inl (cI, 32, .inl (rI COa))), (e6, .inl (cI, 9, .inl (rI AH))), (o0, .inr (7, [.ref o1, .ref o2, .ref o3, .ref o4, .ref o5, .ref o6, .int (nI n), .int (nI k), .int wd, .int (bb wt)])), (o1, .inl (cI, 8, .inl xs)), (o2, .inl (cI, 8, .inl ys)), (o3, .inl (cI, 8, .inl rf)), (o4, .inl (cI, 8, .inl bo)), (o5, .inl (cI, 4, .inl pr)), (o6, .inl (cI, 4, .inl bu))] := hD
          refine lv_goto (tgt := 44) hx hb dX4_costChangesBut_28 (by decide) ?_
          refine lv_iinc (v := nI (i + 1)) (lv' := [(4, .int (nI (i + 1))), (0, .ref e0), (1, .ref o0), (2, .int (nI ch)), (3, .int (nI sv))]) hx hb dX4_costChangesBut_44 hl (k := 0) rfl (by first | rfl | exact nI_add _ 1 | (simp only [] ; exact nI_add _ 1)) (by decide) rfl (fun ls hl => ?_)
          refine lv_goto (tgt := 3) hx hb dX4_costChangesBut_47 (by decide) ?_
          exact ih_3 (updN ALa i (2 ^ sv)) COa (i + 1) (by omega) (chg_al1 h1 n_15) (chg_co1 h2 n_15 h3 hk) (fun x hx => h3 x (by omega)) (by omega) _ _ hP hD hS _ (lv_sub hl [0, 1, 2, 3, 4] rfl)
  exact L_3 (Nat.succ (n - 0)) AL CO 0 (Nat.zero_le _) (fun h => (if_neg (fun q => absurd q.2 (Nat.not_lt_zero _))).symm) (fun _ q => absurd q (Nat.not_lt_zero _)) (fun _ _ => rfl) (Nat.lt_succ_self _) _ _ hP hD hS _ (lv_sub hl [0, 1, 2, 3, 4] rfl)

set_option maxHeartbeats 4000000 in
set_option maxRecDepth 100000 in
theorem c_X4_leastCost (l : Launch) (D : va_G) (cI cZ cO : ClassId) (sz : Nat) (gR : Nat) (gD : Nat) (gK : Nat → Nat) (gV : Nat → Nat) (e0 : Nat) (e1 : Nat) (e2 : Nat) (e3 : Nat) (e4 : Nat) (e5 : Nat) (e6 : Nat) (ns : Nat) (ks : Nat) (LL : Nat) (NE : Nat → Nat) (AL : Nat → Nat) (PI : Nat → Nat) (BE : Nat → Nat) (CO : Nat → Nat) (AH : Nat → Nat) (h : Nat) (hh : h < 8) (hks : ks ≤ 4) (hal : AL h < 16) (hco : ∀ v, v < ks → CO (h * 4 + v) ≤ 1000) : xMi l yX4_leastCost wsX4_leastCost (1) (21) D (TY cI cZ cO) (xGc gR gD gK gV) [.ref e0, .int (nI h)] [(e0, .inr (3, [.ref e1, .ref e2, .ref e3, .ref e4, .ref e5, .ref e6, .int (nI ns), .int (nI ks), .int (nI LL)])), (e1, .inl (cI, 8, .inl (rI NE))), (e2, .inl (cI, 8, .inl (rI AL))), (e3, .inl (cI, 8, .inl (rI PI))), (e4, .inl (cI, 8, .inl (rI BE))), (e5, .inl (cI, 32, .inl (rI CO))), (e6, .inl (cI, 9, .inl (rI AH)))] sz (fun (rv_ : Int32) (u : Unit) => rv_ = (nI (lcN (AL h) (fun v => CO (h * 4 + v)) ks)) ∧ (True)) (fun (u : Unit) => [(e0, .inr (3, [.ref e1, .ref e2, .ref e3, .ref e4, .ref e5, .ref e6, .int (nI ns), .int (nI ks), .int (nI LL)])), (e1, .inl (cI, 8, .inl (rI NE))), (e2, .inl (cI, 8, .inl (rI AL))), (e3, .inl (cI, 8, .inl (rI PI))), (e4, .inl (cI, 8, .inl (rI BE))), (e5, .inl (cI, 32, .inl (rI CO))), (e6, .inl (cI, 9, .inl (rI AH)))]) := by
  refine xMi.of (cc := cX4_leastCost) (maxL := 4) (by decide +kernel) rfl (Nat.le_of_ble_eq_true rfl) ?_
  intro p e s m below meth c A Q H hx hb hml hown hts hA hP hD hK hS hG hret ls hl
  have hown : s.vm.findClass RX4 = some m.cls := hown
  have hP : va_P D vwCl [(e0, .inr (3, [.ref e1, .ref e2, .ref e3, .ref e4, .ref e5, .ref e6, .int (nI ns), .int (nI ks), .int (nI LL)])), (e1, .inl (cI, 8, .inl (rI NE))), (e2, .inl (cI, 8, .inl (rI AL))), (e3, .inl (cI, 8, .inl (rI PI))), (e4, .inl (cI, 8, .inl (rI BE))), (e5, .inl (cI, 32, .inl (rI CO))), (e6, .inl (cI, 9, .inl (rI AH)))] H := hP
  have hD : va_D A [(e0, .inr (3, [.ref e1, .ref e2, .ref e3, .ref e4, .ref e5, .ref e6, .int (nI ns), .int (nI ks), .int (nI LL)])), (e1, .inl (cI, 8, .inl (rI NE))), (e2, .inl (cI, 8, .inl (rI AL))), (e3, .inl (cI, 8, .inl (rI PI))), (e4, .inl (cI, 8, .inl (rI BE))), (e5, .inl (cI, 32, .inl (rI CO))), (e6, .inl (cI, 9, .inl (rI AH)))] := hD
  have hl : lv_has ls 4 [(0, .ref e0), (1, .int (nI h))] := hl
  have w_0 := hts (.constant RX4 72 (1000000)) (List.mem_of_getElem? (i := 1) (by rfl))
  have w_1 := hts (.fieldLink RX4 40 "UnlikeRoofs$Search" "sorts" "I") (List.mem_of_getElem? (i := 2) (by rfl))
  have w_2 := hts (.fieldLink RX4 15 "UnlikeRoofs$Search" "allowed" "[I") (List.mem_of_getElem? (i := 3) (by rfl))
  have w_3 := hts (.fieldLink RX4 24 "UnlikeRoofs$Search" "costs" "[I") (List.mem_of_getElem? (i := 4) (by rfl))
  have w_4 := hts (.methodLink RX4 77 Lib.Math.min.name) (List.mem_of_getElem? (i := 5) (by rfl))
  have w_5 := hts (.static Lib.Math.min.name) (List.mem_of_getElem? (i := 6) (by rfl))
  have w_6 := hts (.initialized "java/lang/Math") (List.mem_of_getElem? (i := 7) (by rfl))
  have w_7 := hts (.code Lib.Math.min.name Lib.Math.min.code 2 (some .int)) (List.mem_of_getElem? (i := 8) (by rfl))
  have hin_X4 : ∀ w ∈ wsX40, w ∈ wsX4_leastCost := fun _ h => List.mem_cons_of_mem _ (List.mem_append_right _ h)
  have _h0 : True := trivial
  refine lv_ldc hx hb hown w_0 dX4_leastCost_0 ?_
  refine lv_istore_n (lv' := [(2, .int (1000000 : Int32)), (0, .ref e0), (1, .int (nI h))]) hx hb dX4_leastCost_2 rfl hl (by decide) rfl (fun ls hl => ?_)
  refine lv_iconst (v := (0 : Int32)) hx hb dX4_leastCost_3 (by decide) ?_
  refine lv_istore_n (lv' := [(3, .int (0 : Int32)), (2, .int (1000000 : Int32)), (0, .ref e0), (1, .int (nI h))]) hx hb dX4_leastCost_4 rfl hl (by decide) rfl (fun ls hl => ?_)
  have L_5 : ∀ (fuel : Nat) (lw : Nat) (i : Nat), (i ≤ ks) → (lw = lcN (AL h) (fun v => CO (h * 4 + v)) i) → (ks - i) < fuel → ∀ (H : Heap) (locs : List Loc), va_P D vwCl [(e0, .inr (3, [.ref e1, .ref e2, .ref e3, .ref e4, .ref e5, .ref e6, .int (nI ns), .int (nI ks), .int (nI LL)])), (e1, .inl (cI, 8, .inl (rI NE))), (e2, .inl (cI, 8, .inl (rI AL))), (e3, .inl (cI, 8, .inl (rI PI))), (e4, .inl (cI, 8, .inl (rI BE))), (e5, .inl (cI, 32, .inl (rI CO))), (e6, .inl (cI, 9, .inl (rI AH)))] H → va_D A [(e0, .inr (3, [.ref e1, .ref e2, .ref e3, .ref e4, .ref e5, .ref e6, .int (nI ns), .int (nI ks), .int (nI LL)])), (e1, .inl (cI, 8, .inl (rI NE))), (e2, .inl (cI, 8, .inl (rI AL))), (e3, .inl (cI, 8, .inl (rI PI))), (e4, .inl (cI, 8, .inl (rI BE))), (e5, .inl (cI, 32, .inl (rI CO))), (e6, .inl (cI, 9, .inl (rI AH)))] → va_S A s.heap H locs → ∀ ls : Array Slot, lv_has ls 4 [(3, .int (nI i)), (2, .int (nI lw)), (0, .ref e0), (1, .int (nI h))] → W p l e (xRm 1 21) s m ([.ref e0, .int (nI h)] : List Value).toArray below meth c H locs 0 0 Q (F0 m 5 ls []) := by
    intro fuel
    induction fuel with
    | zero =>
      intro lw i hi hlw hm
      exact absurd hm (Nat.not_lt_zero _)
    | succ fuel ih_5 =>
      intro lw i hi hlw hm_5 H locs hP hD hS ls hl
      refine lv_iload_n hx hb dX4_leastCost_5 rfl (lv_at hl 0 rfl) ?_
      refine lv_aload_n hx hb dX4_leastCost_6 rfl (lv_at hl 2 rfl) ?_
      refine va_get (D := D) (ci := 3) (v := .int (nI ks)) (C := RX4) (T := TX4) (N := 9) hx hb hts hin_X4 hown hK hP 0 rfl rfl 7 (by decide) w_1 (fun _ h9 => h9) rfl dX4_leastCost_7 ?_
      refine lv_icmp_ge (tgt := 48) hx hb dX4_leastCost_10 (by decide) (fun c_10 => ?_) (fun c_10 => ?_)
      ·
        have n_10 : ks ≤ i := (nI_leI (show ks < 2147483648 by omega) (show i < 2147483648 by omega)).1 c_10
        refine lv_iload_n hx hb dX4_leastCost_48 rfl (lv_at hl 1 rfl) ?_
        exact hret _ () _ _ _ _ (rfl) (⟨by rw [hlw, show i = ks by omega], trivial⟩) hP hD hS dX4_leastCost_49
      ·
        have n_10 : i < ks := Nat.lt_of_not_le (fun q => c_10 ((nI_leI (show ks < 2147483648 by omega) (show i < 2147483648 by omega)).2 q))
        refine lv_aload_n hx hb dX4_leastCost_13 rfl (lv_at hl 2 rfl) ?_
        refine va_get (D := D) (ci := 3) (v := .ref e2) (C := RX4) (T := TX4) (N := 9) hx hb hts hin_X4 hown hK hP 0 rfl rfl 1 (by decide) w_2 (fun _ h9 => h9) rfl dX4_leastCost_14 ?_
        refine lv_iload_n hx hb dX4_leastCost_17 rfl (lv_at hl 3 rfl) ?_
        refine x_iald hx hb hK hP 2 0 rfl rfl (j := h) (by omega) (by decide) dX4_leastCost_18 ?_
        refine lv_iload_n hx hb dX4_leastCost_19 rfl (lv_at hl 0 rfl) ?_
        refine lv_ishr hx hb dX4_leastCost_20 ?_
        refine lv_iconst (v := (1 : Int32)) hx hb dX4_leastCost_21 (by decide) ?_
        refine lv_iand hx hb dX4_leastCost_22 ?_
        refine lv_topr (x' := bb ((AL h).testBit i)) (bit_a (by omega) (by omega)) ?_
        refine lv_iconst (v := (1 : Int32)) hx hb dX4_leastCost_23 (by decide) ?_
        refine lv_icmp_ne (tgt := 42) hx hb dX4_leastCost_24 (by decide) (fun c_24 => ?_) (fun c_24 => ?_)
        ·
          have b_24 : ((AL h).testBit i) = false := bb_neq1 c_24
          refine lv_iinc (v := nI (i + 1)) (lv' := [(3, .int (nI (i + 1))), (2, .int (nI lw)), (0, .ref e0), (1, .int (nI h))]) hx hb dX4_leastCost_42 hl (k := 0) rfl (by first | rfl | exact nI_add _ 1 | (simp only [] ; exact nI_add _ 1)) (by decide) rfl (fun ls hl => ?_)
          refine lv_goto (tgt := 5) hx hb dX4_leastCost_45 (by decide) ?_
          exact ih_5 lw (i + 1) (by omega) (by rw [lcN, if_neg (bfne b_24), hlw]) (by omega) _ _ hP hD hS _ (lv_sub hl [0, 1, 2, 3] rfl)
        ·
          have b_24 : ((AL h).testBit i) = true := bb_eq1 c_24
          refine lv_iload_n hx hb dX4_leastCost_27 rfl (lv_at hl 1 rfl) ?_
          refine lv_aload_n hx hb dX4_leastCost_28 rfl (lv_at hl 2 rfl) ?_
          refine va_get (D := D) (ci := 3) (v := .ref e5) (C := RX4) (T := TX4) (N := 9) hx hb hts hin_X4 hown hK hP 0 rfl rfl 4 (by decide) w_3 (fun _ h9 => h9) rfl dX4_leastCost_29 ?_
          refine lv_iload_n hx hb dX4_leastCost_32 rfl (lv_at hl 3 rfl) ?_
          refine lv_iconst (v := (4 : Int32)) hx hb dX4_leastCost_33 (by decide) ?_
          refine lv_imul hx hb dX4_leastCost_34 ?_
          refine lv_topr (x' := nI (h * 4)) (pk_mul h 4) ?_
          refine lv_iload_n hx hb dX4_leastCost_35 rfl (lv_at hl 0 rfl) ?_
          refine lv_iadd hx hb dX4_leastCost_36 ?_
          refine lv_topr (x' := nI ((h * 4) + i)) (nI_add (h * 4) i) ?_
          refine x_iald hx hb hK hP 5 0 rfl rfl (j := ((h * 4) + i)) (by omega) (by decide) dX4_leastCost_37 ?_
          refine va_mmin hx hb (hml.trans hl.1.symm) hown w_4 w_5 w_6 w_7 (Nat.le_of_ble_eq_true rfl) (Nat.le_of_ble_eq_true rfl) (Nat.zero_le _) (Nat.zero_le _) dX4_leastCost_38 ?_
          refine lv_topr (x' := xmin (nI lw) (nI (CO ((h * 4) + i)))) (by rfl) ?_
          refine lv_topr (x' := nI (min lw (CO (h * 4 + i)))) (xmin_nI (by rw [hlw]; exact lcN_le _ _ _) (Nat.le_trans (hco i (by omega)) (by decide))) ?_
          refine lv_istore_n (lv' := [(2, .int (nI (min lw (CO (h * 4 + i))))), (3, .int (nI i)), (0, .ref e0), (1, .int (nI h))]) hx hb dX4_leastCost_41 rfl hl (by decide) rfl (fun ls hl => ?_)
          refine lv_iinc (v := nI (i + 1)) (lv' := [(3, .int (nI (i + 1))), (2, .int (nI (min lw (CO (h * 4 + i))))), (0, .ref e0), (1, .int (nI h))]) hx hb dX4_leastCost_42 hl (k := 1) rfl (by first | rfl | exact nI_add _ 1 | (simp only [] ; exact nI_add _ 1)) (by decide) rfl (fun ls hl => ?_)
          refine lv_goto (tgt := 5) hx hb dX4_leastCost_45 (by decide) ?_
          exact ih_5 (min lw (CO (h * 4 + i))) (i + 1) (by omega) (by rw [lcN, if_pos b_24, hlw]) (by omega) _ _ hP hD hS _ (lv_sub hl [0, 1, 2, 3] rfl)
  exact L_5 (Nat.succ (ks - 0)) 1000000 0 (Nat.zero_le _) (rfl) (Nat.lt_succ_self _) _ _ hP hD hS _ (lv_sub hl [0, 1, 2, 3] rfl)

set_option maxHeartbeats 4000000 in
set_option maxRecDepth 100000 in
theorem c_X4_freeSorts (l : Launch) (D : va_G) (cI cZ cO : ClassId) (sz : Nat) (gR : Nat) (gD : Nat) (gK : Nat → Nat) (gV : Nat → Nat) (e0 : Nat) (e1 : Nat) (e2 : Nat) (e3 : Nat) (e4 : Nat) (e5 : Nat) (e6 : Nat) (ns : Nat) (ks : Nat) (LL : Nat) (NE : Nat → Nat) (AL : Nat → Nat) (PI : Nat → Nat) (BE : Nat → Nat) (CO : Nat → Nat) (AH : Nat → Nat) (h : Nat) (hh : h < 8) (hal : AL h < 16) (hne : NE h < 256) (hpi : ∀ g, g < h → (NE h).testBit g = true → PI g < 4) : xMi l yX4_freeSorts wsX4_freeSorts (0) (0) D (TY cI cZ cO) (xGc gR gD gK gV) [.ref e0, .int (nI h)] [(e0, .inr (3, [.ref e1, .ref e2, .ref e3, .ref e4, .ref e5, .ref e6, .int (nI ns), .int (nI ks), .int (nI LL)])), (e1, .inl (cI, 8, .inl (rI NE))), (e2, .inl (cI, 8, .inl (rI AL))), (e3, .inl (cI, 8, .inl (rI PI))), (e4, .inl (cI, 8, .inl (rI BE))), (e5, .inl (cI, 32, .inl (rI CO))), (e6, .inl (cI, 9, .inl (rI AH)))] sz (fun (rv_ : Int32) (u : Unit) => rv_ = (nI (frM (AL h) (NE h) PI h)) ∧ (True)) (fun (u : Unit) => [(e0, .inr (3, [.ref e1, .ref e2, .ref e3, .ref e4, .ref e5, .ref e6, .int (nI ns), .int (nI ks), .int (nI LL)])), (e1, .inl (cI, 8, .inl (rI NE))), (e2, .inl (cI, 8, .inl (rI AL))), (e3, .inl (cI, 8, .inl (rI PI))), (e4, .inl (cI, 8, .inl (rI BE))), (e5, .inl (cI, 32, .inl (rI CO))), (e6, .inl (cI, 9, .inl (rI AH)))]) := by
  refine xMi.of (cc := cX4_freeSorts) (maxL := 4) (by decide +kernel) rfl (Nat.le_of_ble_eq_true rfl) ?_
  intro p e s m below meth c A Q H hx hb hml hown hts hA hP hD hK hS hG hret ls hl
  have hown : s.vm.findClass RX4 = some m.cls := hown
  have hP : va_P D vwCl [(e0, .inr (3, [.ref e1, .ref e2, .ref e3, .ref e4, .ref e5, .ref e6, .int (nI ns), .int (nI ks), .int (nI LL)])), (e1, .inl (cI, 8, .inl (rI NE))), (e2, .inl (cI, 8, .inl (rI AL))), (e3, .inl (cI, 8, .inl (rI PI))), (e4, .inl (cI, 8, .inl (rI BE))), (e5, .inl (cI, 32, .inl (rI CO))), (e6, .inl (cI, 9, .inl (rI AH)))] H := hP
  have hD : va_D A [(e0, .inr (3, [.ref e1, .ref e2, .ref e3, .ref e4, .ref e5, .ref e6, .int (nI ns), .int (nI ks), .int (nI LL)])), (e1, .inl (cI, 8, .inl (rI NE))), (e2, .inl (cI, 8, .inl (rI AL))), (e3, .inl (cI, 8, .inl (rI PI))), (e4, .inl (cI, 8, .inl (rI BE))), (e5, .inl (cI, 32, .inl (rI CO))), (e6, .inl (cI, 9, .inl (rI AH)))] := hD
  have hl : lv_has ls 4 [(0, .ref e0), (1, .int (nI h))] := hl
  have w_0 := hts (.fieldLink RX4 15 "UnlikeRoofs$Search" "allowed" "[I") (List.mem_of_getElem? (i := 1) (by rfl))
  have w_1 := hts (.fieldLink RX4 9 "UnlikeRoofs$Search" "near" "[I") (List.mem_of_getElem? (i := 2) (by rfl))
  have w_2 := hts (.fieldLink RX4 18 "UnlikeRoofs$Search" "picked" "[I") (List.mem_of_getElem? (i := 3) (by rfl))
  have hin_X4 : ∀ w ∈ wsX40, w ∈ wsX4_freeSorts := fun _ h => List.mem_cons_of_mem _ (List.mem_append_right _ h)
  have _h0 : True := trivial
  refine lv_aload_n hx hb dX4_freeSorts_0 rfl (lv_at hl 0 rfl) ?_
  refine va_get (D := D) (ci := 3) (v := .ref e2) (C := RX4) (T := TX4) (N := 9) hx hb hts hin_X4 hown hK hP 0 rfl rfl 1 (by decide) w_0 (fun _ h9 => h9) rfl dX4_freeSorts_1 ?_
  refine lv_iload_n hx hb dX4_freeSorts_4 rfl (lv_at hl 1 rfl) ?_
  refine x_iald hx hb hK hP 2 0 rfl rfl (j := h) (by omega) (by decide) dX4_freeSorts_5 ?_
  refine lv_istore_n (lv' := [(2, .int (nI (AL h))), (0, .ref e0), (1, .int (nI h))]) hx hb dX4_freeSorts_6 rfl hl (by decide) rfl (fun ls hl => ?_)
  refine lv_iconst (v := (0 : Int32)) hx hb dX4_freeSorts_7 (by decide) ?_
  refine lv_istore_n (lv' := [(3, .int (0 : Int32)), (2, .int (nI (AL h))), (0, .ref e0), (1, .int (nI h))]) hx hb dX4_freeSorts_8 rfl hl (by decide) rfl (fun ls hl => ?_)
  have L_9 : ∀ (fuel : Nat) (fr : Nat) (g : Nat), (g ≤ h) → (fr = frM (AL h) (NE h) PI g) → (h - g) < fuel → ∀ (H : Heap) (locs : List Loc), va_P D vwCl [(e0, .inr (3, [.ref e1, .ref e2, .ref e3, .ref e4, .ref e5, .ref e6, .int (nI ns), .int (nI ks), .int (nI LL)])), (e1, .inl (cI, 8, .inl (rI NE))), (e2, .inl (cI, 8, .inl (rI AL))), (e3, .inl (cI, 8, .inl (rI PI))), (e4, .inl (cI, 8, .inl (rI BE))), (e5, .inl (cI, 32, .inl (rI CO))), (e6, .inl (cI, 9, .inl (rI AH)))] H → va_D A [(e0, .inr (3, [.ref e1, .ref e2, .ref e3, .ref e4, .ref e5, .ref e6, .int (nI ns), .int (nI ks), .int (nI LL)])), (e1, .inl (cI, 8, .inl (rI NE))), (e2, .inl (cI, 8, .inl (rI AL))), (e3, .inl (cI, 8, .inl (rI PI))), (e4, .inl (cI, 8, .inl (rI BE))), (e5, .inl (cI, 32, .inl (rI CO))), (e6, .inl (cI, 9, .inl (rI AH)))] → va_S A s.heap H locs → ∀ ls : Array Slot, lv_has ls 4 [(3, .int (nI g)), (2, .int (nI fr)), (0, .ref e0), (1, .int (nI h))] → W p l e (xRm 0 0) s m ([.ref e0, .int (nI h)] : List Value).toArray below meth c H locs 0 0 Q (F0 m 9 ls []) := by
    intro fuel
    induction fuel with
    | zero =>
      intro fr g hg hfr hm
      exact absurd hm (Nat.not_lt_zero _)
    | succ fuel ih_9 =>
      intro fr g hg hfr hm_9 H locs hP hD hS ls hl
      refine lv_iload_n hx hb dX4_freeSorts_9 rfl (lv_at hl 0 rfl) ?_
      refine lv_iload_n hx hb dX4_freeSorts_10 rfl (lv_at hl 3 rfl) ?_
      refine lv_icmp_ge (tgt := 47) hx hb dX4_freeSorts_11 (by decide) (fun c_11 => ?_) (fun c_11 => ?_)
      ·
        have n_11 : h ≤ g := (nI_leI (show h < 2147483648 by omega) (show g < 2147483648 by omega)).1 c_11
        refine lv_iload_n hx hb dX4_freeSorts_47 rfl (lv_at hl 1 rfl) ?_
        exact hret _ () _ _ _ _ (rfl) (⟨by rw [hfr, show g = h by omega], trivial⟩) hP hD hS dX4_freeSorts_48
      ·
        have n_11 : g < h := Nat.lt_of_not_le (fun q => c_11 ((nI_leI (show h < 2147483648 by omega) (show g < 2147483648 by omega)).2 q))
        refine lv_aload_n hx hb dX4_freeSorts_14 rfl (lv_at hl 2 rfl) ?_
        refine va_get (D := D) (ci := 3) (v := .ref e1) (C := RX4) (T := TX4) (N := 9) hx hb hts hin_X4 hown hK hP 0 rfl rfl 0 (by decide) w_1 (fun _ h9 => h9) rfl dX4_freeSorts_15 ?_
        refine lv_iload_n hx hb dX4_freeSorts_18 rfl (lv_at hl 3 rfl) ?_
        refine x_iald hx hb hK hP 1 0 rfl rfl (j := h) (by omega) (by decide) dX4_freeSorts_19 ?_
        refine lv_iload_n hx hb dX4_freeSorts_20 rfl (lv_at hl 0 rfl) ?_
        refine lv_ishr hx hb dX4_freeSorts_21 ?_
        refine lv_iconst (v := (1 : Int32)) hx hb dX4_freeSorts_22 (by decide) ?_
        refine lv_iand hx hb dX4_freeSorts_23 ?_
        refine lv_topr (x' := bb ((NE h).testBit g)) (bit_a (by omega) (by omega)) ?_
        refine lv_iconst (v := (1 : Int32)) hx hb dX4_freeSorts_24 (by decide) ?_
        refine lv_icmp_ne (tgt := 41) hx hb dX4_freeSorts_25 (by decide) (fun c_25 => ?_) (fun c_25 => ?_)
        ·
          have b_25 : ((NE h).testBit g) = false := bb_neq1 c_25
          refine lv_iinc (v := nI (g + 1)) (lv' := [(3, .int (nI (g + 1))), (2, .int (nI fr)), (0, .ref e0), (1, .int (nI h))]) hx hb dX4_freeSorts_41 hl (k := 0) rfl (by first | rfl | exact nI_add _ 1 | (simp only [] ; exact nI_add _ 1)) (by decide) rfl (fun ls hl => ?_)
          refine lv_goto (tgt := 9) hx hb dX4_freeSorts_44 (by decide) ?_
          exact ih_9 fr (g + 1) (by omega) (by rw [frM, if_neg (bfne b_25), hfr]) (by omega) _ _ hP hD hS _ (lv_sub hl [0, 1, 2, 3] rfl)
        ·
          have b_25 : ((NE h).testBit g) = true := bb_eq1 c_25
          refine lv_iload_n hx hb dX4_freeSorts_28 rfl (lv_at hl 1 rfl) ?_
          refine lv_iconst (v := (1 : Int32)) hx hb dX4_freeSorts_29 (by decide) ?_
          refine lv_aload_n hx hb dX4_freeSorts_30 rfl (lv_at hl 2 rfl) ?_
          refine va_get (D := D) (ci := 3) (v := .ref e3) (C := RX4) (T := TX4) (N := 9) hx hb hts hin_X4 hown hK hP 0 rfl rfl 2 (by decide) w_2 (fun _ h9 => h9) rfl dX4_freeSorts_31 ?_
          refine lv_iload_n hx hb dX4_freeSorts_34 rfl (lv_at hl 0 rfl) ?_
          refine x_iald hx hb hK hP 3 0 rfl rfl (j := g) (by omega) (by decide) dX4_freeSorts_35 ?_
          refine lv_ishl hx hb dX4_freeSorts_36 ?_
          refine lv_topr (x' := nI (2 ^ PI g)) (sh1 (by have := hpi g (by omega) b_25; omega)) ?_
          refine lv_iconst (v := (-1 : Int32)) hx hb dX4_freeSorts_37 (by decide) ?_
          refine lv_ixor hx hb dX4_freeSorts_38 ?_
          refine lv_topr (x' := (nI (2 ^ PI g)) ^^^ (-1)) (rfl) ?_
          refine lv_iand hx hb dX4_freeSorts_39 ?_
          refine lv_topr (x' := nI (fr &&& (15 ^^^ 2 ^ PI g))) (andnot (by rw [hfr]; exact frM_lt hal _) (hpi g (by omega) b_25)) ?_
          refine lv_istore_n (lv' := [(2, .int (nI (fr &&& (15 ^^^ 2 ^ PI g)))), (3, .int (nI g)), (0, .ref e0), (1, .int (nI h))]) hx hb dX4_freeSorts_40 rfl hl (by decide) rfl (fun ls hl => ?_)
          refine lv_iinc (v := nI (g + 1)) (lv' := [(3, .int (nI (g + 1))), (2, .int (nI (fr &&& (15 ^^^ 2 ^ PI g)))), (0, .ref e0), (1, .int (nI h))]) hx hb dX4_freeSorts_41 hl (k := 1) rfl (by first | rfl | exact nI_add _ 1 | (simp only [] ; exact nI_add _ 1)) (by decide) rfl (fun ls hl => ?_)
          refine lv_goto (tgt := 9) hx hb dX4_freeSorts_44 (by decide) ?_
          exact ih_9 (fr &&& (15 ^^^ 2 ^ PI g)) (g + 1) (by omega) (by rw [frM, if_pos b_25, hfr]) (by omega) _ _ hP hD hS _ (lv_sub hl [0, 1, 2, 3] rfl)
  exact L_9 (Nat.succ (h - 0)) (AL h) 0 (Nat.zero_le _) (rfl) (Nat.lt_succ_self _) _ _ hP hD hS _ (lv_sub hl [0, 1, 2, 3] rfl)
