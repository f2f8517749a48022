set_option maxHeartbeats 4000000 in
set_option maxRecDepth 100000 in
theorem c_X4_onlySort (l : Launch) (D : va_G) (cI cZ cO : ClassId) (sz : Nat) (gR : Nat) (gD : Nat) (gK : Nat → Nat) (gV : Nat → Nat) (e0 : Nat) (e1 : Nat) (e2 : Nat) (e3 : Nat) (e4 : Nat) (e5 : Nat) (e6 : Nat) (ns : Nat) (ks : Nat) (LL : Nat) (NE : Nat → Nat) (AL : Nat → Nat) (PI : Nat → Nat) (BE : Nat → Nat) (CO : Nat → Nat) (AH : Nat → Nat) (h : Nat) (Aw : Nat → Nat → Bool) (Lw : Nat → Nat → Bool) (cf : Nat → Nat → Nat) (hns : ns ≤ 8) (hks : ks ≤ 4) (hh : h < ns) (hAL : ∀ j, j < ns → AL j < 16 ∧ ∀ v, v < ks → (AL j).testBit v = Aw j v) (hNE : ∀ j, j < ns → NE j < 256 ∧ ∀ g, g < j → (NE j).testBit g = Lw j g) (hCO : ∀ j, j < ns → ∀ v, v < ks → CO (j * 4 + v) = cf j v ∧ cf j v ≤ 1000) : xMi l yX4_onlySort wsX4_onlySort (11) (271) D (TY cI cZ cO) (xGc gR gD gK gV) [.ref e0, .int (nI h)] [(e0, .inr (3, [.ref e1, .ref e2, .ref e3, .ref e4, .ref e5, .ref e6, .int (nI ns), .int (nI ks), .int (nI LL)])), (e1, .inl (cI, 8, .inl (rI NE))), (e2, .inl (cI, 8, .inl (rI AL))), (e3, .inl (cI, 8, .inl (rI PI))), (e4, .inl (cI, 8, .inl (rI BE))), (e5, .inl (cI, 32, .inl (rI CO))), (e6, .inl (cI, 9, .inl (rI AH)))] sz (fun (rv_ : Int32) (u : (Nat → Nat) × (Nat → Nat) × (Nat → Nat) × Nat × (Nat → Nat)) => rv_ = (oneS (onP ns ks Aw Lw cf h) ks) ∧ (True)) (fun (u : (Nat → Nat) × (Nat → Nat) × (Nat → Nat) × Nat × (Nat → Nat)) => [(e0, .inr (3, [.ref e1, .ref e2, .ref e3, .ref e4, .ref e5, .ref e6, .int (nI ns), .int (nI ks), .int (nI (u.2.2.2.1))])), (e1, .inl (cI, 8, .inl (rI NE))), (e2, .inl (cI, 8, .inl (rI (u.2.2.2.2)))), (e3, .inl (cI, 8, .inl (rI (u.1)))), (e4, .inl (cI, 8, .inl (rI (u.2.1)))), (e5, .inl (cI, 32, .inl (rI CO))), (e6, .inl (cI, 9, .inl (rI (u.2.2.1))))]) := by
  refine xMi.of (cc := cX4_onlySort) (maxL := 5) (by decide +kernel) rfl (Nat.le_of_ble_eq_true rfl) ?_
  intro p e s m below meth c A Q H hx hb hml hown hts hA hP hD hK hS hG hret ls hl
  have hown : s.vm.findClass RX4 = some m.cls := hown
  have hP : va_P D vwCl [(e0, .inr (3, [.ref e1, .ref e2, .ref e3, .ref e4, .ref e5, .ref e6, .int (nI ns), .int (nI ks), .int (nI LL)])), (e1, .inl (cI, 8, .inl (rI NE))), (e2, .inl (cI, 8, .inl (rI AL))), (e3, .inl (cI, 8, .inl (rI PI))), (e4, .inl (cI, 8, .inl (rI BE))), (e5, .inl (cI, 32, .inl (rI CO))), (e6, .inl (cI, 9, .inl (rI AH)))] H := hP
  have hD : va_D A [(e0, .inr (3, [.ref e1, .ref e2, .ref e3, .ref e4, .ref e5, .ref e6, .int (nI ns), .int (nI ks), .int (nI LL)])), (e1, .inl (cI, 8, .inl (rI NE))), (e2, .inl (cI, 8, .inl (rI AL))), (e3, .inl (cI, 8, .inl (rI PI))), (e4, .inl (cI, 8, .inl (rI BE))), (e5, .inl (cI, 32, .inl (rI CO))), (e6, .inl (cI, 9, .inl (rI AH)))] := hD
  have hl : lv_has ls 5 [(0, .ref e0), (1, .int (nI h))] := hl
  have w_0 := hts (.fieldLink RX4 36 "UnlikeRoofs$Search" "houses" "I") (List.mem_of_getElem? (i := 1) (by rfl))
  have w_1 := hts (.fieldLink RX4 15 "UnlikeRoofs$Search" "allowed" "[I") (List.mem_of_getElem? (i := 2) (by rfl))
  have w_2 := hts (.fieldLink RX4 40 "UnlikeRoofs$Search" "sorts" "I") (List.mem_of_getElem? (i := 3) (by rfl))
  have hin_X4 : ∀ w ∈ wsX40, w ∈ wsX4_onlySort := fun _ h => List.mem_cons_of_mem _ (List.mem_append_right _ h)
  have _h0 : True := trivial
  refine lv_bipush (v := (-9 : Int32)) hx hb dX4_onlySort_0 (by decide) ?_
  refine lv_istore_n (lv' := [(2, .int (-9 : Int32)), (0, .ref e0), (1, .int (nI h))]) hx hb dX4_onlySort_2 rfl hl (by decide) rfl (fun ls hl => ?_)
  refine lv_iload_n hx hb dX4_onlySort_3 rfl (lv_at hl 2 rfl) ?_
  refine lv_if_lt (tgt := 15) hx hb dX4_onlySort_4 (by decide) (fun c_4 => ?_) (fun c_4 => ?_)
  ·
    exact absurd c_4 (nI_pos (show h < 2147483648 by omega))
  ·
    refine lv_iload_n hx hb dX4_onlySort_7 rfl (lv_at hl 2 rfl) ?_
    refine lv_aload_n hx hb dX4_onlySort_8 rfl (lv_at hl 1 rfl) ?_
    refine va_get (D := D) (ci := 3) (v := .int (nI ns)) (C := RX4) (T := TX4) (N := 9) hx hb hts hin_X4 hown hK hP 0 rfl rfl 6 (by decide) w_0 (fun _ h9 => h9) rfl dX4_onlySort_9 ?_
    refine lv_icmp_lt (tgt := 18) hx hb dX4_onlySort_12 (by decide) (fun c_12 => ?_) (fun c_12 => ?_)
    ·
      have n_12 : h < ns := (nI_ltI (show h < 2147483648 by omega) (show ns < 2147483648 by omega)).1 c_12
      refine lv_aload_n hx hb dX4_onlySort_18 rfl (lv_at hl 1 rfl) ?_
      refine va_get (D := D) (ci := 3) (v := .ref e2) (C := RX4) (T := TX4) (N := 9) hx hb hts hin_X4 hown hK hP 0 rfl rfl 1 (by decide) w_1 (fun _ h9 => h9) rfl dX4_onlySort_19 ?_
      refine lv_iload_n hx hb dX4_onlySort_22 rfl (lv_at hl 2 rfl) ?_
      refine x_iald hx hb hK hP 2 0 rfl rfl (j := h) (by omega) (by decide) dX4_onlySort_23 ?_
      refine lv_istore_n (lv' := [(3, .int (nI (AL h))), (2, .int (-9 : Int32)), (0, .ref e0), (1, .int (nI h))]) hx hb dX4_onlySort_24 rfl hl (by decide) rfl (fun ls hl => ?_)
      refine lv_iconst (v := (0 : Int32)) hx hb dX4_onlySort_25 (by decide) ?_
      refine lv_istore (lv' := [(4, .int (0 : Int32)), (3, .int (nI (AL h))), (2, .int (-9 : Int32)), (0, .ref e0), (1, .int (nI h))]) hx hb dX4_onlySort_26 hl (by decide) rfl (fun ls hl => ?_)
      have L_28 : ∀ (fuel : Nat) (PIa : Nat → Nat) (BEa : Nat → Nat) (AHa : Nat → Nat) (LLa : Nat) (ALa : Nat → Nat) (on : Int32) (sv : Nat), (sv ≤ ks) → (on = onS (onP ns ks Aw Lw cf h) sv ∧ cntB (onP ns ks Aw Lw cf h) sv ≤ 1) → (∀ j, ¬ j = h → ALa j = AL j) → (ks - sv) < fuel → ∀ (H : Heap) (locs : List Loc), va_P D vwCl [(e0, .inr (3, [.ref e1, .ref e2, .ref e3, .ref e4, .ref e5, .ref e6, .int (nI ns), .int (nI ks), .int (nI LLa)])), (e1, .inl (cI, 8, .inl (rI NE))), (e2, .inl (cI, 8, .inl (rI ALa))), (e3, .inl (cI, 8, .inl (rI PIa))), (e4, .inl (cI, 8, .inl (rI BEa))), (e5, .inl (cI, 32, .inl (rI CO))), (e6, .inl (cI, 9, .inl (rI AHa)))] H → va_D A [(e0, .inr (3, [.ref e1, .ref e2, .ref e3, .ref e4, .ref e5, .ref e6, .int (nI ns), .int (nI ks), .int (nI LLa)])), (e1, .inl (cI, 8, .inl (rI NE))), (e2, .inl (cI, 8, .inl (rI ALa))), (e3, .inl (cI, 8, .inl (rI PIa))), (e4, .inl (cI, 8, .inl (rI BEa))), (e5, .inl (cI, 32, .inl (rI CO))), (e6, .inl (cI, 9, .inl (rI AHa)))] → va_S A s.heap H locs → ∀ ls : Array Slot, lv_has ls 5 [(4, .int (nI sv)), (3, .int (nI (AL h))), (2, .int on), (0, .ref e0), (1, .int (nI h))] → W p l e (xRm 11 271) s m ([.ref e0, .int (nI h)] : List Value).toArray below meth c H locs 0 0 Q (F0 m 28 ls []) := by
        intro fuel
        induction fuel with
        | zero =>
          intro PIa BEa AHa LLa ALa on sv hs hon hAa hm
          exact absurd hm (Nat.not_lt_zero _)
        | succ fuel ih_28 =>
          intro PIa BEa AHa LLa ALa on sv hs hon hAa hm_28 H locs hP hD hS ls hl
          refine lv_iload hx hb dX4_onlySort_28 (lv_at hl 0 rfl) ?_
          refine lv_aload_n hx hb dX4_onlySort_30 rfl (lv_at hl 3 rfl) ?_
          refine va_get (D := D) (ci := 3) (v := .int (nI ks)) (C := RX4) (T := TX4) (N := 9) hx hb hts hin_X4 hown hK hP 0 rfl rfl 7 (by decide) w_2 (fun _ h9 => h9) rfl dX4_onlySort_31 ?_
          refine lv_icmp_ge (tgt := 74) hx hb dX4_onlySort_34 (by decide) (fun c_34 => ?_) (fun c_34 => ?_)
          ·
            have n_34 : ks ≤ sv := (nI_leI (show ks < 2147483648 by omega) (show sv < 2147483648 by omega)).1 c_34
            refine lv_iload_n hx hb dX4_onlySort_74 rfl (lv_at hl 2 rfl) ?_
            exact hret _ (PIa, BEa, AHa, LLa, ALa) _ _ _ _ (rfl) (⟨on_end hks (by omega) hon, trivial⟩) hP hD hS dX4_onlySort_75
          ·
            have n_34 : sv < ks := Nat.lt_of_not_le (fun q => c_34 ((nI_leI (show ks < 2147483648 by omega) (show sv < 2147483648 by omega)).2 q))
            refine lv_aload_n hx hb dX4_onlySort_37 rfl (lv_at hl 3 rfl) ?_
            refine va_get (D := D) (ci := 3) (v := .ref e2) (C := RX4) (T := TX4) (N := 9) hx hb hts hin_X4 hown hK hP 0 rfl rfl 1 (by decide) w_1 (fun _ h9 => h9) rfl dX4_onlySort_38 ?_
            refine lv_iload_n hx hb dX4_onlySort_41 rfl (lv_at hl 4 rfl) ?_
            refine lv_iload_n hx hb dX4_onlySort_42 rfl (lv_at hl 1 rfl) ?_
            refine lv_iconst (v := (1 : Int32)) hx hb dX4_onlySort_43 (by decide) ?_
            refine lv_iload hx hb dX4_onlySort_44 (lv_at hl 0 rfl) ?_
            refine lv_ishl hx hb dX4_onlySort_46 ?_
            refine lv_topr (x' := nI (2 ^ sv)) (sh1 (by omega)) ?_
            refine lv_iand hx hb dX4_onlySort_47 ?_
            refine lv_topr (x' := nI (AL h &&& 2 ^ sv)) (fa_and _ _) ?_
            refine x_iastN hx hb hK hP hD hS 2 0 rfl rfl (j := h) (by omega) (by decide) dX4_onlySort_48 (fun H locs hP hD hS => ?_)
            have hP : va_P D vwCl [(e0, .inr (3, [.ref e1, .ref e2, .ref e3, .ref e4, .ref e5, .ref e6, .int (nI ns), .int (nI ks), .int (nI LLa)])), (e1, .inl (cI, 8, .inl (rI NE))), (e2, .inl (cI, 8, .inl (rI (updN ALa h (AL h &&& 2 ^ sv))))), (e3, .inl (cI, 8, .inl (rI PIa))), (e4, .inl (cI, 8, .inl (rI BEa))), (e5, .inl (cI, 32, .inl (rI CO))), (e6, .inl (cI, 9, .inl (rI AHa)))] H := hP
            have hD : va_D A [(e0, .inr (3, [.ref e1, .ref e2, .ref e3, .ref e4, .ref e5, .ref e6, .int (nI ns), .int (nI ks), .int (nI LLa)])), (e1, .inl (cI, 8, .inl (rI NE))), (e2, .inl (cI, 8, .inl (rI (updN ALa h (AL h &&& 2 ^ sv))))), (e3, .inl (cI, 8, .inl (rI PIa))), (e4, .inl (cI, 8, .inl (rI BEa))), (e5, .inl (cI, 32, .inl (rI CO))), (e6, .inl (cI, 9, .inl (rI AHa)))] := hD
            refine lv_aload_n hx hb dX4_onlySort_49 rfl (lv_at hl 3 rfl) ?_
            refine xcV_i (As := []) (rest := []) (wc := [(e0, .inr (3, [.ref e1, .ref e2, .ref e3, .ref e4, .ref e5, .ref e6, .int (nI ns), .int (nI ks), .int (nI LLa)])), (e1, .inl (cI, 8, .inl (rI NE))), (e2, .inl (cI, 8, .inl (rI (updN ALa h (AL h &&& 2 ^ sv))))), (e3, .inl (cI, 8, .inl (rI PIa))), (e4, .inl (cI, 8, .inl (rI BEa))), (e5, .inl (cI, 32, .inl (rI CO))), (e6, .inl (cI, 9, .inl (rI AHa)))]) (wr := []) (w3 := fun (u : (Nat → Nat) × (Nat → Nat) × (Nat → Nat) × Nat × (Nat → Nat)) => [(e0, .inr (3, [.ref e1, .ref e2, .ref e3, .ref e4, .ref e5, .ref e6, .int (nI ns), .int (nI ks), .int (nI (u.2.2.2.1))])), (e1, .inl (cI, 8, .inl (rI NE))), (e2, .inl (cI, 8, .inl (rI (updN ALa h (AL h &&& 2 ^ sv))))), (e3, .inl (cI, 8, .inl (rI (u.1)))), (e4, .inl (cI, 8, .inl (rI (u.2.1)))), (e5, .inl (cI, 32, .inl (rI CO))), (e6, .inl (cI, 9, .inl (rI (u.2.2.1))))]) ⟨hx, hb, hml, hown, hts⟩ (c_X4_find l D cI cZ cO H.size gR gD gK gV e0 e1 e2 e3 e4 e5 e6 ns ks LLa NE (updN ALa h (AL h &&& 2 ^ sv)) PIa BEa CO AHa (onA Aw h sv) Lw cf (by first | assumption | omega | rfl) (by first | assumption | omega | rfl) (only_al hAL hAa) (hNE) (hCO)) (cwV 0 hts gX4_onlySort_X4_find rfl rfl rfl (by decide +kernel) ⟨Nat.le_of_ble_eq_true rfl, Nat.le_of_ble_eq_true rfl⟩) (xGdc gR gD gK gV) (xGdc gR gD gK gV) (fun _ _ _ h => h) hG hP hD hK hS hA [0, 1, 2, 3, 4, 5, 6] [] [0, 1, 2, 3, 4, 5, 6] rfl rfl rfl rfl rfl 0 rfl rfl rfl (fun _ => rfl) rfl rfl hl.1 (Nat.le_of_ble_eq_true rfl) dX4_onlySort_50 ⟨Nat.zero_le _, Nat.zero_le _⟩ (fun r u H locs hw hP hD hS => ?_)
            obtain ⟨z_1, z_2, z_3, z_4, z_5⟩ := u
            obtain ⟨rfl, hw⟩ := hw
            have hw_50 : (z_4, z_5) = enumF ns ks (onA Aw h sv) (stK Lw cf ns) ns z0 (1000000, BEa) ∧ (∀ j, j < ns → z_2 j = z_5 j) ∧ z_4 ≤ 1000000 := hw
            have hP : va_P D vwCl [(e0, .inr (3, [.ref e1, .ref e2, .ref e3, .ref e4, .ref e5, .ref e6, .int (nI ns), .int (nI ks), .int (nI z_4)])), (e1, .inl (cI, 8, .inl (rI NE))), (e2, .inl (cI, 8, .inl (rI (updN ALa h (AL h &&& 2 ^ sv))))), (e3, .inl (cI, 8, .inl (rI z_1))), (e4, .inl (cI, 8, .inl (rI z_2))), (e5, .inl (cI, 32, .inl (rI CO))), (e6, .inl (cI, 9, .inl (rI z_3)))] H := hP
            have hD : va_D A [(e0, .inr (3, [.ref e1, .ref e2, .ref e3, .ref e4, .ref e5, .ref e6, .int (nI ns), .int (nI ks), .int (nI z_4)])), (e1, .inl (cI, 8, .inl (rI NE))), (e2, .inl (cI, 8, .inl (rI (updN ALa h (AL h &&& 2 ^ sv))))), (e3, .inl (cI, 8, .inl (rI z_1))), (e4, .inl (cI, 8, .inl (rI z_2))), (e5, .inl (cI, 32, .inl (rI CO))), (e6, .inl (cI, 9, .inl (rI z_3)))] := hD
            refine lv_if_eq (tgt := 68) hx hb dX4_onlySort_53 (by decide) (fun c_53 => ?_) (fun c_53 => ?_)
            ·
              have b_53 : (decide (z_4 < 1000000)) = false := bb_eq0 c_53
              have b_53 := of_decide_eq_false b_53
              
              refine lv_iinc (v := nI (sv + 1)) (lv' := [(4, .int (nI (sv + 1))), (3, .int (nI (AL h))), (2, .int on), (0, .ref e0), (1, .int (nI h))]) hx hb dX4_onlySort_68 hl (k := 0) rfl (by first | rfl | exact nI_add _ 1 | (simp only [] ; exact nI_add _ 1)) (by decide) rfl (fun ls hl => ?_)
              refine lv_goto (tgt := 28) hx hb dX4_onlySort_71 (by decide) ?_
              exact ih_28 z_1 z_2 z_3 z_4 (updN ALa h (AL h &&& 2 ^ sv)) on (sv + 1) (by omega) (on_n hon (on_is hw_50.1 (decide_eq_false b_53))) (fun j hj => (updN_n hj).trans (hAa j hj)) (by omega) _ _ hP hD hS _ (lv_sub hl [0, 1, 2, 3, 4] rfl)
            ·
              have b_53 : (decide (z_4 < 1000000)) = true := bb_neq0 c_53
              have b_53 := of_decide_eq_true b_53
              
              refine lv_iload_n hx hb dX4_onlySort_56 rfl (lv_at hl 2 rfl) ?_
              refine lv_bipush (v := (-9 : Int32)) hx hb dX4_onlySort_57 (by decide) ?_
              refine lv_icmp_eq (tgt := 65) hx hb dX4_onlySort_59 (by decide) (fun c_59 => ?_) (fun c_59 => ?_)
              ·
                refine lv_iload hx hb dX4_onlySort_65 (lv_at hl 0 rfl) ?_
                refine lv_istore_n (lv' := [(2, .int (nI sv)), (4, .int (nI sv)), (3, .int (nI (AL h))), (0, .ref e0), (1, .int (nI h))]) hx hb dX4_onlySort_67 rfl hl (by decide) rfl (fun ls hl => ?_)
                refine lv_iinc (v := nI (sv + 1)) (lv' := [(4, .int (nI (sv + 1))), (2, .int (nI sv)), (3, .int (nI (AL h))), (0, .ref e0), (1, .int (nI h))]) hx hb dX4_onlySort_68 hl (k := 1) rfl (by first | rfl | exact nI_add _ 1 | (simp only [] ; exact nI_add _ 1)) (by decide) rfl (fun ls hl => ?_)
                refine lv_goto (tgt := 28) hx hb dX4_onlySort_71 (by decide) ?_
                exact ih_28 z_1 z_2 z_3 z_4 (updN ALa h (AL h &&& 2 ^ sv)) (nI sv) (sv + 1) (by omega) (on_y (by omega) hon.1 c_59 (on_is hw_50.1 (decide_eq_true b_53))) (fun j hj => (updN_n hj).trans (hAa j hj)) (by omega) _ _ hP hD hS _ (lv_sub hl [0, 2, 1, 3, 4] rfl)
              ·
                refine lv_bipush (v := (-9 : Int32)) hx hb dX4_onlySort_62 (by decide) ?_
                exact hret _ (z_1, z_2, z_3, z_4, (updN ALa h (AL h &&& 2 ^ sv))) _ _ _ _ (rfl) (⟨on_two (by omega) (by omega) (by rw [← hon.1]; exact c_59) (on_is hw_50.1 (decide_eq_true b_53)), trivial⟩) hP hD hS dX4_onlySort_64
      exact L_28 (Nat.succ (ks - 0)) PI BE AH LL AL (-9) 0 (Nat.zero_le _) (⟨rfl, Nat.zero_le _⟩) (fun _ _ => rfl) (Nat.lt_succ_self _) _ _ hP hD hS _ (lv_sub hl [0, 1, 2, 3, 4] rfl)
    ·
      have n_12 : ns ≤ h := Nat.le_of_not_lt (fun q => c_12 ((nI_ltI (show h < 2147483648 by omega) (show ns < 2147483648 by omega)).2 q))
      exact absurd n_12 (by omega)
