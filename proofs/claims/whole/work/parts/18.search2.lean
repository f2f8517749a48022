set_option maxHeartbeats 4000000 in
set_option maxRecDepth 100000 in
theorem c_X4_seek (l : Launch) (D : va_G) (cI cZ cO : ClassId) : ∀ (q : Nat) (sz : Nat) (gR : Nat) (gD : Nat) (gK : Nat → Nat) (gV : Nat → Nat) (e0 : Nat) (e1 : Nat) (e2 : Nat) (e3 : Nat) (e4 : Nat) (e5 : Nat) (e6 : Nat) (ns : Nat) (ks : Nat) (LL : Nat) (NE : Nat → Nat) (AL : Nat → Nat) (PI : Nat → Nat) (BE : Nat → Nat) (CO : Nat → Nat) (AH : Nat → Nat) (h : Nat) (spt : Nat) (bz : Nat → Nat) (r : Nat → Nat) (Aw : Nat → Nat → Bool) (Lw : Nat → Nat → Bool) (cf : Nat → Nat → Nat) (hns : ns ≤ 8) (hks : ks ≤ 4) (hq : ns - h = q) (hhn : h ≤ ns) (hAL : ∀ j, j < ns → AL j < 16 ∧ ∀ v, v < ks → (AL j).testBit v = Aw j v) (hNE : ∀ j, j < ns → NE j < 256 ∧ ∀ g, g < j → (NE j).testBit g = Lw j g) (hCO : ∀ j, j < ns → ∀ v, v < ks → CO (j * 4 + v) = cf j v ∧ cf j v ≤ 1000) (hAH : ahOk ns ks Aw cf AH) (hAHb : ∀ j, j ≤ ns → AH j ≤ 9000000) (hPI : ∀ j, j < h → PI j = r j) (hr4 : ∀ j, j < h → r j < 4) (hlaw : lawB Lw r h = true) (hspt : spt = cstN cf r h) (hsb : spt ≤ h * 1000) (hLL : LL ≤ 1000000) (hend : h = ns → spt < LL) (hbz : ∀ j, j < ns → BE j = bz j), xMv l yX4_seek wsX4_seek (q + 1) (25 * (q + 1)) D (TY cI cZ cO) (xGc gR gD gK gV) [.ref e0, .int (nI h), .int (nI spt)] [(e0, .inr (3, [.ref e1, .ref e2, .ref e3, .ref e4, .ref e5, .ref e6, .int (nI ns), .int (nI ks), .int (nI LL)])), (e1, .inl (cI, 8, .inl (rI NE))), (e2, .inl (cI, 8, .inl (rI AL))), (e3, .inl (cI, 8, .inl (rI PI))), (e4, .inl (cI, 8, .inl (rI BE))), (e5, .inl (cI, 32, .inl (rI CO))), (e6, .inl (cI, 9, .inl (rI AH)))] sz (fun (u : (Nat → Nat) × (Nat → Nat) × Nat × (Nat → Nat)) => (((u.2.2.1), (u.2.2.2)) = enumF ns ks Aw (stK Lw cf ns) q r (LL, bz) ∧ (∀ j, j < ns → (u.2.1) j = (u.2.2.2) j) ∧ (∀ j, j < h → (u.1) j = PI j) ∧ (u.2.2.1) ≤ LL)) (fun (u : (Nat → Nat) × (Nat → Nat) × Nat × (Nat → Nat)) => [(e0, .inr (3, [.ref e1, .ref e2, .ref e3, .ref e4, .ref e5, .ref e6, .int (nI ns), .int (nI ks), .int (nI (u.2.2.1))])), (e1, .inl (cI, 8, .inl (rI NE))), (e2, .inl (cI, 8, .inl (rI AL))), (e3, .inl (cI, 8, .inl (rI (u.1)))), (e4, .inl (cI, 8, .inl (rI (u.2.1)))), (e5, .inl (cI, 32, .inl (rI CO))), (e6, .inl (cI, 9, .inl (rI AH)))]) := by
  intro q
  induction q using Nat.strongRecOn with
  | ind q ihq =>
  intro sz gR gD gK gV e0 e1 e2 e3 e4 e5 e6 ns ks LL NE AL PI BE CO AH h spt bz r Aw Lw cf hns hks hq hhn hAL hNE hCO hAH hAHb hPI hr4 hlaw hspt hsb hLL hend hbz
  refine xMv.of (cc := cX4_seek) (maxL := 6) (by decide +kernel) rfl (Nat.le_of_ble_eq_true rfl) ?_
  intro p e s m below meth c A Q H hx hb hml hown hts hA hP hD hK hS hG hret ls hl
  have hown : s.vm.findClass RX4 = some m.cls := hown
  have hP : va_P D vwCl [(e0, .inr (3, [.ref e1, .ref e2, .ref e3, .ref e4, .ref e5, .ref e6, .int (nI ns), .int (nI ks), .int (nI LL)])), (e1, .inl (cI, 8, .inl (rI NE))), (e2, .inl (cI, 8, .inl (rI AL))), (e3, .inl (cI, 8, .inl (rI PI))), (e4, .inl (cI, 8, .inl (rI BE))), (e5, .inl (cI, 32, .inl (rI CO))), (e6, .inl (cI, 9, .inl (rI AH)))] H := hP
  have hD : va_D A [(e0, .inr (3, [.ref e1, .ref e2, .ref e3, .ref e4, .ref e5, .ref e6, .int (nI ns), .int (nI ks), .int (nI LL)])), (e1, .inl (cI, 8, .inl (rI NE))), (e2, .inl (cI, 8, .inl (rI AL))), (e3, .inl (cI, 8, .inl (rI PI))), (e4, .inl (cI, 8, .inl (rI BE))), (e5, .inl (cI, 32, .inl (rI CO))), (e6, .inl (cI, 9, .inl (rI AH)))] := hD
  have hl : lv_has ls 6 [(0, .ref e0), (1, .int (nI h)), (2, .int (nI spt))] := hl
  have w_0 := hts (.fieldLink RX4 36 "UnlikeRoofs$Search" "houses" "I") (List.mem_of_getElem? (i := 1) (by rfl))
  have w_1 := hts (.fieldLink RX4 62 "UnlikeRoofs$Search" "least" "I") (List.mem_of_getElem? (i := 2) (by rfl))
  have w_2 := hts (.fieldLink RX4 18 "UnlikeRoofs$Search" "picked" "[I") (List.mem_of_getElem? (i := 3) (by rfl))
  have w_3 := hts (.fieldLink RX4 21 "UnlikeRoofs$Search" "best" "[I") (List.mem_of_getElem? (i := 4) (by rfl))
  have w_4 := hts (.methodLink RX4 82 arraycopyName) (List.mem_of_getElem? (i := 5) (by rfl))
  have w_5 := hts (.native arraycopyName) (List.mem_of_getElem? (i := 6) (by rfl))
  have w_6 := hts (.static arraycopyName) (List.mem_of_getElem? (i := 7) (by rfl))
  have w_7 := hts (.initialized "java/lang/System") (List.mem_of_getElem? (i := 8) (by rfl))
  have w_8 := hts (.fieldLink RX4 40 "UnlikeRoofs$Search" "sorts" "I") (List.mem_of_getElem? (i := 9) (by rfl))
  have w_9 := hts (.fieldLink RX4 24 "UnlikeRoofs$Search" "costs" "[I") (List.mem_of_getElem? (i := 10) (by rfl))
  have w_10 := hts (.fieldLink RX4 27 "UnlikeRoofs$Search" "ahead" "[I") (List.mem_of_getElem? (i := 11) (by rfl))
  have hin_X4 : ∀ w ∈ wsX40, w ∈ wsX4_seek := fun _ h => List.mem_cons_of_mem _ (List.mem_append_right _ h)
  have _h0 : True := trivial
  refine lv_iload_n hx hb dX4_seek_0 rfl (lv_at hl 1 rfl) ?_
  refine lv_aload_n hx hb dX4_seek_1 rfl (lv_at hl 0 rfl) ?_
  refine va_get (D := D) (ci := 3) (v := .int (nI ns)) (C := RX4) (T := TX4) (N := 9) hx hb hts hin_X4 hown hK hP 0 rfl rfl 6 (by decide) w_0 (fun _ h9 => h9) rfl dX4_seek_2 ?_
  refine lv_icmp_ge (tgt := 14) hx hb dX4_seek_5 (by decide) (fun c_5 => ?_) (fun c_5 => ?_)
  ·
    have n_5 : ns ≤ h := (nI_leI (show ns < 2147483648 by omega) (show h < 2147483648 by omega)).1 c_5
    refine lv_aload_n hx hb dX4_seek_14 rfl (lv_at hl 0 rfl) ?_
    refine lv_iload_n hx hb dX4_seek_15 rfl (lv_at hl 2 rfl) ?_
    refine va_put (D := D) (ci := 3) (v := .int (nI spt)) (ty := .int) (C := RX4) (T := TX4) (N := 9) hx hb hts hin_X4 tyX4 tyX4_ok nmX4 hown hK hP hD hS 0 rfl rfl 8 (by decide) w_1 (fun _ h9 => h9) rfl (by decide +kernel) rfl rfl (Nat.le_of_ble_eq_true rfl) dX4_seek_16 (fun H locs hP hD hS => ?_)
    have hP : va_P D vwCl [(e0, .inr (3, [.ref e1, .ref e2, .ref e3, .ref e4, .ref e5, .ref e6, .int (nI ns), .int (nI ks), .int (nI spt)])), (e1, .inl (cI, 8, .inl (rI NE))), (e2, .inl (cI, 8, .inl (rI AL))), (e3, .inl (cI, 8, .inl (rI PI))), (e4, .inl (cI, 8, .inl (rI BE))), (e5, .inl (cI, 32, .inl (rI CO))), (e6, .inl (cI, 9, .inl (rI AH)))] H := hP
    have hD : va_D A [(e0, .inr (3, [.ref e1, .ref e2, .ref e3, .ref e4, .ref e5, .ref e6, .int (nI ns), .int (nI ks), .int (nI spt)])), (e1, .inl (cI, 8, .inl (rI NE))), (e2, .inl (cI, 8, .inl (rI AL))), (e3, .inl (cI, 8, .inl (rI PI))), (e4, .inl (cI, 8, .inl (rI BE))), (e5, .inl (cI, 32, .inl (rI CO))), (e6, .inl (cI, 9, .inl (rI AH)))] := hD
    refine lv_aload_n hx hb dX4_seek_19 rfl (lv_at hl 0 rfl) ?_
    refine va_get (D := D) (ci := 3) (v := .ref e3) (C := RX4) (T := TX4) (N := 9) hx hb hts hin_X4 hown hK hP 0 rfl rfl 2 (by decide) w_2 (fun _ h9 => h9) rfl dX4_seek_20 ?_
    refine lv_iconst (v := (0 : Int32)) hx hb dX4_seek_23 (by decide) ?_
    refine lv_aload_n hx hb dX4_seek_24 rfl (lv_at hl 0 rfl) ?_
    refine va_get (D := D) (ci := 3) (v := .ref e4) (C := RX4) (T := TX4) (N := 9) hx hb hts hin_X4 hown hK hP 0 rfl rfl 3 (by decide) w_3 (fun _ h9 => h9) rfl dX4_seek_25 ?_
    refine lv_iconst (v := (0 : Int32)) hx hb dX4_seek_28 (by decide) ?_
    refine lv_bipush (v := (8 : Int32)) hx hb dX4_seek_29 (by decide) ?_
    refine x_copy8 hx hb (hml.trans hl.1.symm) hown w_4 w_5 w_6 w_7 hK hP hD hS 3 4 0 rfl rfl rfl (Nat.le_of_ble_eq_true rfl) (by show 0 + (7 + 11) ≤ 25 * (q + 1); omega) dX4_seek_31 (fun H locs hP hD hS => ?_)
    have hP : va_P D vwCl [(e0, .inr (3, [.ref e1, .ref e2, .ref e3, .ref e4, .ref e5, .ref e6, .int (nI ns), .int (nI ks), .int (nI spt)])), (e1, .inl (cI, 8, .inl (rI NE))), (e2, .inl (cI, 8, .inl (rI AL))), (e3, .inl (cI, 8, .inl (rI PI))), (e4, .inl (cI, 8, .inl (rI PI))), (e5, .inl (cI, 32, .inl (rI CO))), (e6, .inl (cI, 9, .inl (rI AH)))] H := hP
    have hD : va_D A [(e0, .inr (3, [.ref e1, .ref e2, .ref e3, .ref e4, .ref e5, .ref e6, .int (nI ns), .int (nI ks), .int (nI spt)])), (e1, .inl (cI, 8, .inl (rI NE))), (e2, .inl (cI, 8, .inl (rI AL))), (e3, .inl (cI, 8, .inl (rI PI))), (e4, .inl (cI, 8, .inl (rI PI))), (e5, .inl (cI, 32, .inl (rI CO))), (e6, .inl (cI, 9, .inl (rI AH)))] := hD
    exact hret (PI, PI, spt, r) _ _ _ _ (⟨seek_base hq (by omega) hlaw hspt (hend (by omega)), fun j hj => hPI j (by omega), fun _ _ => rfl, Nat.le_of_lt (hend (by omega))⟩) hP hD hS dX4_seek_34
  ·
    have n_5 : h < ns := Nat.lt_of_not_le (fun q => c_5 ((nI_leI (show ns < 2147483648 by omega) (show h < 2147483648 by omega)).2 q))
    refine lv_iload_n hx hb dX4_seek_8 rfl (lv_at hl 1 rfl) ?_
    refine lv_bipush (v := (8 : Int32)) hx hb dX4_seek_9 (by decide) ?_
    refine lv_icmp_lt (tgt := 35) hx hb dX4_seek_11 (by decide) (fun c_11 => ?_) (fun c_11 => ?_)
    ·
      have n_11 : h < 8 := (nI_ltI (show h < 2147483648 by omega) (show 8 < 2147483648 by omega)).1 c_11
      refine lv_aload_n hx hb dX4_seek_35 rfl (lv_at hl 0 rfl) ?_
      refine lv_iload_n hx hb dX4_seek_36 rfl (lv_at hl 1 rfl) ?_
      refine xcV_i (As := [.int (nI h)]) (rest := []) (wc := [(e0, .inr (3, [.ref e1, .ref e2, .ref e3, .ref e4, .ref e5, .ref e6, .int (nI ns), .int (nI ks), .int (nI LL)])), (e1, .inl (cI, 8, .inl (rI NE))), (e2, .inl (cI, 8, .inl (rI AL))), (e3, .inl (cI, 8, .inl (rI PI))), (e4, .inl (cI, 8, .inl (rI BE))), (e5, .inl (cI, 32, .inl (rI CO))), (e6, .inl (cI, 9, .inl (rI AH)))]) (wr := []) (w3 := fun (u : Unit) => [(e0, .inr (3, [.ref e1, .ref e2, .ref e3, .ref e4, .ref e5, .ref e6, .int (nI ns), .int (nI ks), .int (nI LL)])), (e1, .inl (cI, 8, .inl (rI NE))), (e2, .inl (cI, 8, .inl (rI AL))), (e3, .inl (cI, 8, .inl (rI PI))), (e4, .inl (cI, 8, .inl (rI BE))), (e5, .inl (cI, 32, .inl (rI CO))), (e6, .inl (cI, 9, .inl (rI AH)))]) ⟨hx, hb, hml, hown, hts⟩ (c_X4_freeSorts l D cI cZ cO H.size gR gD gK gV e0 e1 e2 e3 e4 e5 e6 ns ks LL NE AL PI BE CO AH h (by first | assumption | omega | rfl) ((hAL h (by omega)).1) ((hNE h (by omega)).1) (fun g hg _ => by rw [hPI g hg]; exact hr4 g hg)) (cwV 1 hts gX4_seek_X4_freeSorts rfl rfl rfl (by decide +kernel) ⟨(by show 0 + 1 ≤ q + 1; omega), (by show 8 + (4 + 11) + 0 ≤ 25 * (q + 1); omega)⟩) (xGdc gR gD gK gV) (xGdc gR gD gK gV) (fun _ _ _ h => h) hG hP hD hK hS hA [0, 1, 2, 3, 4, 5, 6] [] [0, 1, 2, 3, 4, 5, 6] rfl rfl rfl rfl rfl 0 rfl rfl rfl (fun _ => rfl) rfl rfl hl.1 (Nat.le_of_ble_eq_true rfl) dX4_seek_37 ⟨Nat.zero_le _, Nat.zero_le _⟩ (fun r u H locs hw hP hD hS => ?_)
      obtain ⟨rfl, hw⟩ := hw
      have hw_37 : True := hw
      have hP : va_P D vwCl [(e0, .inr (3, [.ref e1, .ref e2, .ref e3, .ref e4, .ref e5, .ref e6, .int (nI ns), .int (nI ks), .int (nI LL)])), (e1, .inl (cI, 8, .inl (rI NE))), (e2, .inl (cI, 8, .inl (rI AL))), (e3, .inl (cI, 8, .inl (rI PI))), (e4, .inl (cI, 8, .inl (rI BE))), (e5, .inl (cI, 32, .inl (rI CO))), (e6, .inl (cI, 9, .inl (rI AH)))] H := hP
      have hD : va_D A [(e0, .inr (3, [.ref e1, .ref e2, .ref e3, .ref e4, .ref e5, .ref e6, .int (nI ns), .int (nI ks), .int (nI LL)])), (e1, .inl (cI, 8, .inl (rI NE))), (e2, .inl (cI, 8, .inl (rI AL))), (e3, .inl (cI, 8, .inl (rI PI))), (e4, .inl (cI, 8, .inl (rI BE))), (e5, .inl (cI, 32, .inl (rI CO))), (e6, .inl (cI, 9, .inl (rI AH)))] := hD
      refine lv_istore_n (lv' := [(3, .int (nI (frM (AL h) (NE h) PI h))), (0, .ref e0), (1, .int (nI h)), (2, .int (nI spt))]) hx hb dX4_seek_40 rfl hl (by decide) rfl (fun ls hl => ?_)
      refine lv_iconst (v := (0 : Int32)) hx hb dX4_seek_41 (by decide) ?_
      refine lv_istore (lv' := [(4, .int (0 : Int32)), (3, .int (nI (frM (AL h) (NE h) PI h))), (0, .ref e0), (1, .int (nI h)), (2, .int (nI spt))]) hx hb dX4_seek_42 hl (by decide) rfl (fun ls hl => ?_)
      have L_44 : ∀ (fuel : Nat) (PIa : Nat → Nat) (BEa : Nat → Nat) (LLa : Nat) (bza : Nat → Nat) (sv : Nat), (sv ≤ ks) → ((LLa, bza) = forS (skF ns ks Aw Lw cf q h r) sv (LL, bz)) → (∀ j, j < ns → BEa j = bza j) → (∀ j, j < h → PIa j = PI j) → (LLa ≤ LL) → (ks - sv) < fuel → ∀ (H : Heap) (locs : List Loc), va_P D vwCl [(e0, .inr (3, [.ref e1, .ref e2, .ref e3, .ref e4, .ref e5, .ref e6, .int (nI ns), .int (nI ks), .int (nI LLa)])), (e1, .inl (cI, 8, .inl (rI NE))), (e2, .inl (cI, 8, .inl (rI AL))), (e3, .inl (cI, 8, .inl (rI PIa))), (e4, .inl (cI, 8, .inl (rI BEa))), (e5, .inl (cI, 32, .inl (rI CO))), (e6, .inl (cI, 9, .inl (rI AH)))] H → va_D A [(e0, .inr (3, [.ref e1, .ref e2, .ref e3, .ref e4, .ref e5, .ref e6, .int (nI ns), .int (nI ks), .int (nI LLa)])), (e1, .inl (cI, 8, .inl (rI NE))), (e2, .inl (cI, 8, .inl (rI AL))), (e3, .inl (cI, 8, .inl (rI PIa))), (e4, .inl (cI, 8, .inl (rI BEa))), (e5, .inl (cI, 32, .inl (rI CO))), (e6, .inl (cI, 9, .inl (rI AH)))] → va_S A s.heap H locs → ∀ ls : Array Slot, lv_has ls 6 [(4, .int (nI sv)), (3, .int (nI (frM (AL h) (NE h) PI h))), (0, .ref e0), (1, .int (nI h)), (2, .int (nI spt))] → W p l e (xRm (q + 1) (25 * (q + 1))) s m ([.ref e0, .int (nI h), .int (nI spt)] : List Value).toArray below meth c H locs 0 0 Q (F0 m 44 ls []) := by
        intro fuel
        induction fuel with
        | zero =>
          intro PIa BEa LLa bza sv hs hf hBE hPa hLa hm
          exact absurd hm (Nat.not_lt_zero _)
        | succ fuel ih_44 =>
          intro PIa BEa LLa bza sv hs hf hBE hPa hLa hm_44 H locs hP hD hS ls hl
          refine lv_iload hx hb dX4_seek_44 (lv_at hl 0 rfl) ?_
          refine lv_aload_n hx hb dX4_seek_46 rfl (lv_at hl 2 rfl) ?_
          refine va_get (D := D) (ci := 3) (v := .int (nI ks)) (C := RX4) (T := TX4) (N := 9) hx hb hts hin_X4 hown hK hP 0 rfl rfl 7 (by decide) w_8 (fun _ h9 => h9) rfl dX4_seek_47 ?_
          refine lv_icmp_ge (tgt := 119) hx hb dX4_seek_50 (by decide) (fun c_50 => ?_) (fun c_50 => ?_)
          ·
            have n_50 : ks ≤ sv := (nI_leI (show ks < 2147483648 by omega) (show sv < 2147483648 by omega)).1 c_50
            exact hret (PIa, BEa, LLa, bza) _ _ _ _ (⟨seek_out (by omega) hq (by rw [show sv = ks by omega] at hf; exact hf), hBE, hPa, hLa⟩) hP hD hS dX4_seek_119
          ·
            have n_50 : sv < ks := Nat.lt_of_not_le (fun q => c_50 ((nI_leI (show ks < 2147483648 by omega) (show sv < 2147483648 by omega)).2 q))
            have hcv := hCO h (by omega) sv (by omega)
            have hsk := sk_bit (PI := PI) (r := r) (show sv < 4 by omega) ((hAL h (by omega)).2 sv (by omega)) (hNE h (by omega)).2 hPI hr4
            have hbv : (frM (AL h) (NE h) PI h).testBit sv = true → Aw h sv = true ∧ lawB Lw (updN r h sv) (h + 1) = true := fun z => by rw [hsk, Bool.and_eq_true] at z; exact ⟨z.1, by rw [lawB_1, hlaw, z.2]; rfl⟩
            have hbf : (frM (AL h) (NE h) PI h).testBit sv = false → (Aw h sv && !anyN (fun g => Lw h g && decide (sv = r g)) h) = false := fun z => hsk.symm.trans z
            have hAb := hAHb (h + 1) (by omega)
            have hcv1 := hcv.1
            have hcv2 := hcv.2
            refine lv_iload_n hx hb dX4_seek_53 rfl (lv_at hl 4 rfl) ?_
            refine lv_aload_n hx hb dX4_seek_54 rfl (lv_at hl 2 rfl) ?_
            refine va_get (D := D) (ci := 3) (v := .ref e5) (C := RX4) (T := TX4) (N := 9) hx hb hts hin_X4 hown hK hP 0 rfl rfl 4 (by decide) w_9 (fun _ h9 => h9) rfl dX4_seek_55 ?_
            refine lv_iload_n hx hb dX4_seek_58 rfl (lv_at hl 3 rfl) ?_
            refine lv_iconst (v := (4 : Int32)) hx hb dX4_seek_59 (by decide) ?_
            refine lv_imul hx hb dX4_seek_60 ?_
            refine lv_topr (x' := nI (h * 4)) (pk_mul h 4) ?_
            refine lv_iload hx hb dX4_seek_61 (lv_at hl 0 rfl) ?_
            refine lv_iadd hx hb dX4_seek_63 ?_
            refine lv_topr (x' := nI ((h * 4) + sv)) (nI_add (h * 4) sv) ?_
            refine x_iald hx hb hK hP 5 0 rfl rfl (j := ((h * 4) + sv)) (by omega) (by decide) dX4_seek_64 ?_
            refine lv_iadd hx hb dX4_seek_65 ?_
            refine lv_topr (x' := nI (spt + (CO ((h * 4) + sv)))) (nI_add spt (CO ((h * 4) + sv))) ?_
            refine lv_istore (lv' := [(5, .int (nI (spt + (CO ((h * 4) + sv))))), (4, .int (nI sv)), (3, .int (nI (frM (AL h) (NE h) PI h))), (0, .ref e0), (1, .int (nI h)), (2, .int (nI spt))]) hx hb dX4_seek_66 hl (by decide) rfl (fun ls hl => ?_)
            refine lv_iload_n hx hb dX4_seek_68 rfl (lv_at hl 2 rfl) ?_
            refine lv_iload hx hb dX4_seek_69 (lv_at hl 1 rfl) ?_
            refine lv_ishr hx hb dX4_seek_71 ?_
            refine lv_iconst (v := (1 : Int32)) hx hb dX4_seek_72 (by decide) ?_
            refine lv_iand hx hb dX4_seek_73 ?_
            refine lv_topr (x' := bb ((frM (AL h) (NE h) PI h).testBit sv)) (bit_a (Nat.lt_of_lt_of_le (frM_lt (hAL h (by omega)).1 h) (by decide)) (by omega)) ?_
            refine lv_iconst (v := (1 : Int32)) hx hb dX4_seek_74 (by decide) ?_
            refine lv_icmp_ne (tgt := 113) hx hb dX4_seek_75 (by decide) (fun c_75 => ?_) (fun c_75 => ?_)
            ·
              have b_75 : ((frM (AL h) (NE h) PI h).testBit sv) = false := bb_neq1 c_75
              refine lv_iinc (v := nI (sv + 1)) (lv' := [(4, .int (nI (sv + 1))), (5, .int (nI (spt + (CO ((h * 4) + sv))))), (3, .int (nI (frM (AL h) (NE h) PI h))), (0, .ref e0), (1, .int (nI h)), (2, .int (nI spt))]) hx hb dX4_seek_113 hl (k := 1) rfl (by first | rfl | exact nI_add _ 1 | (simp only [] ; exact nI_add _ 1)) (by decide) rfl (fun ls hl => ?_)
              refine lv_goto (tgt := 44) hx hb dX4_seek_116 (by decide) ?_
              exact ih_44 PIa BEa LLa bza (sv + 1) (by omega) (fold_n1 (by omega) hq hf (hbf b_75)) (hBE) (hPa) (hLa) (by omega) _ _ hP hD hS _ (lv_sub hl [0, 2, 3, 4, 5] rfl)
            ·
              have b_75 : ((frM (AL h) (NE h) PI h).testBit sv) = true := bb_eq1 c_75
              refine lv_iload hx hb dX4_seek_78 (lv_at hl 0 rfl) ?_
              refine lv_aload_n hx hb dX4_seek_80 rfl (lv_at hl 3 rfl) ?_
              refine va_get (D := D) (ci := 3) (v := .ref e6) (C := RX4) (T := TX4) (N := 9) hx hb hts hin_X4 hown hK hP 0 rfl rfl 5 (by decide) w_10 (fun _ h9 => h9) rfl dX4_seek_81 ?_
              refine lv_iload_n hx hb dX4_seek_84 rfl (lv_at hl 4 rfl) ?_
              refine lv_iconst (v := (1 : Int32)) hx hb dX4_seek_85 (by decide) ?_
              refine lv_iadd hx hb dX4_seek_86 ?_
              refine lv_topr (x' := nI (h + 1)) (nI_add h 1) ?_
              refine x_iald hx hb hK hP 6 0 rfl rfl (j := (h + 1)) (by omega) (by decide) dX4_seek_87 ?_
              refine lv_iadd hx hb dX4_seek_88 ?_
              refine lv_topr (x' := nI ((spt + (CO ((h * 4) + sv))) + (AH (h + 1)))) (nI_add (spt + (CO ((h * 4) + sv))) (AH (h + 1))) ?_
              refine lv_aload_n hx hb dX4_seek_89 rfl (lv_at hl 3 rfl) ?_
              refine va_get (D := D) (ci := 3) (v := .int (nI LLa)) (C := RX4) (T := TX4) (N := 9) hx hb hts hin_X4 hown hK hP 0 rfl rfl 8 (by decide) w_1 (fun _ h9 => h9) rfl dX4_seek_90 ?_
              refine lv_icmp_ge (tgt := 113) hx hb dX4_seek_93 (by decide) (fun c_93 => ?_) (fun c_93 => ?_)
              ·
                have n_93 : LLa ≤ ((spt + (CO ((h * 4) + sv))) + (AH (h + 1))) := (nI_leI (show LLa < 2147483648 by omega) (show ((spt + (CO ((h * 4) + sv))) + (AH (h + 1))) < 2147483648 by omega)).1 c_93
                refine lv_iinc (v := nI (sv + 1)) (lv' := [(4, .int (nI (sv + 1))), (5, .int (nI (spt + (CO ((h * 4) + sv))))), (3, .int (nI (frM (AL h) (NE h) PI h))), (0, .ref e0), (1, .int (nI h)), (2, .int (nI spt))]) hx hb dX4_seek_113 hl (k := 1) rfl (by first | rfl | exact nI_add _ 1 | (simp only [] ; exact nI_add _ 1)) (by decide) rfl (fun ls hl => ?_)
                refine lv_goto (tgt := 44) hx hb dX4_seek_116 (by decide) ?_
                exact ih_44 PIa BEa LLa bza (sv + 1) (by omega) (fold_n2 (by omega) hq hAH hspt hf (by rw [← hcv.1]; exact n_93)) (hBE) (hPa) (hLa) (by omega) _ _ hP hD hS _ (lv_sub hl [0, 2, 3, 4, 5] rfl)
              ·
                have n_93 : ((spt + (CO ((h * 4) + sv))) + (AH (h + 1))) < LLa := Nat.lt_of_not_le (fun q => c_93 ((nI_leI (show LLa < 2147483648 by omega) (show ((spt + (CO ((h * 4) + sv))) + (AH (h + 1))) < 2147483648 by omega)).2 q))
                refine lv_aload_n hx hb dX4_seek_96 rfl (lv_at hl 3 rfl) ?_
                refine va_get (D := D) (ci := 3) (v := .ref e3) (C := RX4) (T := TX4) (N := 9) hx hb hts hin_X4 hown hK hP 0 rfl rfl 2 (by decide) w_2 (fun _ h9 => h9) rfl dX4_seek_97 ?_
                refine lv_iload_n hx hb dX4_seek_100 rfl (lv_at hl 4 rfl) ?_
                refine lv_iload hx hb dX4_seek_101 (lv_at hl 1 rfl) ?_
                refine x_iastN hx hb hK hP hD hS 3 0 rfl rfl (j := h) (by omega) (by decide) dX4_seek_103 (fun H locs hP hD hS => ?_)
                have hP : va_P D vwCl [(e0, .inr (3, [.ref e1, .ref e2, .ref e3, .ref e4, .ref e5, .ref e6, .int (nI ns), .int (nI ks), .int (nI LLa)])), (e1, .inl (cI, 8, .inl (rI NE))), (e2, .inl (cI, 8, .inl (rI AL))), (e3, .inl (cI, 8, .inl (rI (updN PIa h sv)))), (e4, .inl (cI, 8, .inl (rI BEa))), (e5, .inl (cI, 32, .inl (rI CO))), (e6, .inl (cI, 9, .inl (rI AH)))] H := hP
                have hD : va_D A [(e0, .inr (3, [.ref e1, .ref e2, .ref e3, .ref e4, .ref e5, .ref e6, .int (nI ns), .int (nI ks), .int (nI LLa)])), (e1, .inl (cI, 8, .inl (rI NE))), (e2, .inl (cI, 8, .inl (rI AL))), (e3, .inl (cI, 8, .inl (rI (updN PIa h sv)))), (e4, .inl (cI, 8, .inl (rI BEa))), (e5, .inl (cI, 32, .inl (rI CO))), (e6, .inl (cI, 9, .inl (rI AH)))] := hD
                refine lv_aload_n hx hb dX4_seek_104 rfl (lv_at hl 3 rfl) ?_
                refine lv_iload_n hx hb dX4_seek_105 rfl (lv_at hl 4 rfl) ?_
                refine lv_iconst (v := (1 : Int32)) hx hb dX4_seek_106 (by decide) ?_
                refine lv_iadd hx hb dX4_seek_107 ?_
                refine lv_topr (x' := nI (h + 1)) (nI_add h 1) ?_
                refine lv_iload hx hb dX4_seek_108 (lv_at hl 0 rfl) ?_
                refine xcS_v (As := [.ref e0, .int (nI (h + 1)), .int (nI (spt + (CO ((h * 4) + sv))))]) (rest := []) (wc := [(e0, .inr (3, [.ref e1, .ref e2, .ref e3, .ref e4, .ref e5, .ref e6, .int (nI ns), .int (nI ks), .int (nI LLa)])), (e1, .inl (cI, 8, .inl (rI NE))), (e2, .inl (cI, 8, .inl (rI AL))), (e3, .inl (cI, 8, .inl (rI (updN PIa h sv)))), (e4, .inl (cI, 8, .inl (rI BEa))), (e5, .inl (cI, 32, .inl (rI CO))), (e6, .inl (cI, 9, .inl (rI AH)))]) (wr := []) (w3 := fun (u : (Nat → Nat) × (Nat → Nat) × Nat × (Nat → Nat)) => [(e0, .inr (3, [.ref e1, .ref e2, .ref e3, .ref e4, .ref e5, .ref e6, .int (nI ns), .int (nI ks), .int (nI (u.2.2.1))])), (e1, .inl (cI, 8, .inl (rI NE))), (e2, .inl (cI, 8, .inl (rI AL))), (e3, .inl (cI, 8, .inl (rI (u.1)))), (e4, .inl (cI, 8, .inl (rI (u.2.1)))), (e5, .inl (cI, 32, .inl (rI CO))), (e6, .inl (cI, 9, .inl (rI AH)))]) ⟨hx, hb, hml, hown, hts⟩ (ihq (q - 1) (by omega) H.size gR gD gK gV e0 e1 e2 e3 e4 e5 e6 ns ks LLa NE AL (updN PIa h sv) BEa CO AH (h + 1) (spt + (CO ((h * 4) + sv))) bza (updN r h sv) Aw Lw cf (by first | assumption | omega | rfl) (by first | assumption | omega | rfl) (by omega) (by first | assumption | omega | rfl) (hAL) (hNE) (hCO) (hAH) (hAHb) (pick_ext hPa hPI) (pick_lt hr4 (by omega)) ((hbv b_75).2) (by rw [cstN_1, ← hspt, hcv1]) (by rw [Nat.succ_mul]; omega) (by omega) (fun _ => by omega) (hBE)) (va_cwS 3 hts gX4_seek_X4_seek rfl rfl rfl (by decide +kernel) ⟨(by show ((q - 1) + 1) + 1 ≤ q + 1; omega), (by show 8 + (6 + 11) + (25 * ((q - 1) + 1)) ≤ 25 * (q + 1); omega)⟩) (xGdc gR gD gK gV) (xGdc gR gD gK gV) (fun _ _ _ h => h) hG hP hD hK hS hA [0, 1, 2, 3, 4, 5, 6] [] [0, 1, 2, 3, 4, 5, 6] rfl rfl rfl rfl rfl rfl (fun _ => rfl) rfl rfl hl.1 (Nat.le_of_ble_eq_true rfl) dX4_seek_110 ⟨Nat.zero_le _, Nat.zero_le _⟩ (fun u H locs hw hP hD hS => ?_)
                obtain ⟨z_1, z_2, z_3, z_4⟩ := u
                have hw_110 : (z_3, z_4) = enumF ns ks Aw (stK Lw cf ns) (q - 1) (updN r h sv) (LLa, bza) ∧ (∀ j, j < ns → z_2 j = z_4 j) ∧ (∀ j, j < (h + 1) → z_1 j = (updN PIa h sv) j) ∧ z_3 ≤ LLa := hw
                have hP : va_P D vwCl [(e0, .inr (3, [.ref e1, .ref e2, .ref e3, .ref e4, .ref e5, .ref e6, .int (nI ns), .int (nI ks), .int (nI z_3)])), (e1, .inl (cI, 8, .inl (rI NE))), (e2, .inl (cI, 8, .inl (rI AL))), (e3, .inl (cI, 8, .inl (rI z_1))), (e4, .inl (cI, 8, .inl (rI z_2))), (e5, .inl (cI, 32, .inl (rI CO))), (e6, .inl (cI, 9, .inl (rI AH)))] H := hP
                have hD : va_D A [(e0, .inr (3, [.ref e1, .ref e2, .ref e3, .ref e4, .ref e5, .ref e6, .int (nI ns), .int (nI ks), .int (nI z_3)])), (e1, .inl (cI, 8, .inl (rI NE))), (e2, .inl (cI, 8, .inl (rI AL))), (e3, .inl (cI, 8, .inl (rI z_1))), (e4, .inl (cI, 8, .inl (rI z_2))), (e5, .inl (cI, 32, .inl (rI CO))), (e6, .inl (cI, 9, .inl (rI AH)))] := hD
                refine lv_iinc (v := nI (sv + 1)) (lv' := [(4, .int (nI (sv + 1))), (5, .int (nI (spt + (CO ((h * 4) + sv))))), (3, .int (nI (frM (AL h) (NE h) PI h))), (0, .ref e0), (1, .int (nI h)), (2, .int (nI spt))]) hx hb dX4_seek_113 hl (k := 1) rfl (by first | rfl | exact nI_add _ 1 | (simp only [] ; exact nI_add _ 1)) (by decide) rfl (fun ls hl => ?_)
                refine lv_goto (tgt := 44) hx hb dX4_seek_116 (by decide) ?_
                exact ih_44 z_1 z_2 z_3 z_4 (sv + 1) (by omega) (fold_y hf (hbv b_75).1 hw_110.1) (hw_110.2.1) (pick_keep hw_110.2.2.1 hPa) (Nat.le_trans hw_110.2.2.2 hLa) (by omega) _ _ hP hD hS _ (lv_sub hl [0, 2, 3, 4, 5] rfl)
      exact L_44 (Nat.succ (ks - 0)) PI BE LL bz 0 (Nat.zero_le _) (rfl) (hbz) (fun _ _ => rfl) (Nat.le_refl _) (Nat.lt_succ_self _) _ _ hP hD hS _ (lv_sub hl [0, 1, 2, 3, 4] rfl)
    ·
      have n_11 : 8 ≤ h := Nat.le_of_not_lt (fun q => c_11 ((nI_ltI (show h < 2147483648 by omega) (show 8 < 2147483648 by omega)).2 q))
      exact absurd n_11 (by omega)

set_option maxHeartbeats 4000000 in
set_option maxRecDepth 100000 in
theorem c_X4_waysFrom (l : Launch) (D : va_G) (cI cZ cO : ClassId) : ∀ (q : Nat) (sz : Nat) (gR : Nat) (gD : Nat) (gK : Nat → Nat) (gV : Nat → Nat) (e0 : Nat) (e1 : Nat) (e2 : Nat) (e3 : Nat) (e4 : Nat) (e5 : Nat) (e6 : Nat) (ns : Nat) (ks : Nat) (LL : Nat) (NE : Nat → Nat) (AL : Nat → Nat) (PI : Nat → Nat) (BE : Nat → Nat) (CO : Nat → Nat) (AH : Nat → Nat) (h : Nat) (hns : ns ≤ 8) (hks : ks ≤ 4) (hq : ns - h = q) (hhn : h ≤ ns) (hA2 : ∀ j, j < ns → AL j < 2 ^ ks) (hN2 : ∀ j, j < ns → NE j < 256) (hsy : ∀ h j, h < j → j < ns → (NE j).testBit h = (NE h).testBit j) (hPI : ∀ g, g < h → ∀ j, h ≤ j → j < ns → (NE j).testBit g = true → PI g < 4), xMi l yX4_waysFrom wsX4_waysFrom (q + 1) (25 * (q + 1)) D (TY cI cZ cO) (xGc gR gD gK gV) [.ref e0, .int (nI h)] [(e0, .inr (3, [.ref e1, .ref e2, .ref e3, .ref e4, .ref e5, .ref e6, .int (nI ns), .int (nI ks), .int (nI LL)])), (e1, .inl (cI, 8, .inl (rI NE))), (e2, .inl (cI, 8, .inl (rI AL))), (e3, .inl (cI, 8, .inl (rI PI))), (e4, .inl (cI, 8, .inl (rI BE))), (e5, .inl (cI, 32, .inl (rI CO))), (e6, .inl (cI, 9, .inl (rI AH)))] sz (fun (rv_ : Int32) (u : (Nat → Nat)) => rv_ = (nI (wF ns ks AL NE q PI)) ∧ (∀ j, j < h → u j = PI j)) (fun (u : (Nat → Nat)) => [(e0, .inr (3, [.ref e1, .ref e2, .ref e3, .ref e4, .ref e5, .ref e6, .int (nI ns), .int (nI ks), .int (nI LL)])), (e1, .inl (cI, 8, .inl (rI NE))), (e2, .inl (cI, 8, .inl (rI AL))), (e3, .inl (cI, 8, .inl (rI u))), (e4, .inl (cI, 8, .inl (rI BE))), (e5, .inl (cI, 32, .inl (rI CO))), (e6, .inl (cI, 9, .inl (rI AH)))]) := by
  intro q
  induction q using Nat.strongRecOn with
  | ind q ihq =>
  intro sz gR gD gK gV e0 e1 e2 e3 e4 e5 e6 ns ks LL NE AL PI BE CO AH h hns hks hq hhn hA2 hN2 hsy hPI
  refine xMi.of (cc := cX4_waysFrom) (maxL := 6) (by decide +kernel) rfl (Nat.le_of_ble_eq_true rfl) ?_
  intro p e s m below meth c A Q H hx hb hml hown hts hA hP hD hK hS hG hret ls hl
  have hown : s.vm.findClass RX4 = some m.cls := hown
  have hP : va_P D vwCl [(e0, .inr (3, [.ref e1, .ref e2, .ref e3, .ref e4, .ref e5, .ref e6, .int (nI ns), .int (nI ks), .int (nI LL)])), (e1, .inl (cI, 8, .inl (rI NE))), (e2, .inl (cI, 8, .inl (rI AL))), (e3, .inl (cI, 8, .inl (rI PI))), (e4, .inl (cI, 8, .inl (rI BE))), (e5, .inl (cI, 32, .inl (rI CO))), (e6, .inl (cI, 9, .inl (rI AH)))] H := hP
  have hD : va_D A [(e0, .inr (3, [.ref e1, .ref e2, .ref e3, .ref e4, .ref e5, .ref e6, .int (nI ns), .int (nI ks), .int (nI LL)])), (e1, .inl (cI, 8, .inl (rI NE))), (e2, .inl (cI, 8, .inl (rI AL))), (e3, .inl (cI, 8, .inl (rI PI))), (e4, .inl (cI, 8, .inl (rI BE))), (e5, .inl (cI, 32, .inl (rI CO))), (e6, .inl (cI, 9, .inl (rI AH)))] := hD
  have hl : lv_has ls 6 [(0, .ref e0), (1, .int (nI h))] := hl
  have w_0 := hts (.fieldLink RX4 36 "UnlikeRoofs$Search" "houses" "I") (List.mem_of_getElem? (i := 1) (by rfl))
  have w_1 := hts (.fieldLink RX4 9 "UnlikeRoofs$Search" "near" "[I") (List.mem_of_getElem? (i := 2) (by rfl))
  have w_2 := hts (.fieldLink RX4 40 "UnlikeRoofs$Search" "sorts" "I") (List.mem_of_getElem? (i := 3) (by rfl))
  have w_3 := hts (.fieldLink RX4 18 "UnlikeRoofs$Search" "picked" "[I") (List.mem_of_getElem? (i := 4) (by rfl))
  have hin_X4 : ∀ w ∈ wsX40, w ∈ wsX4_waysFrom := fun _ h => List.mem_cons_of_mem _ (List.mem_append_right _ h)
  have _h0 : True := trivial
  refine lv_iload_n hx hb dX4_waysFrom_0 rfl (lv_at hl 1 rfl) ?_
  refine lv_aload_n hx hb dX4_waysFrom_1 rfl (lv_at hl 0 rfl) ?_
  refine va_get (D := D) (ci := 3) (v := .int (nI ns)) (C := RX4) (T := TX4) (N := 9) hx hb hts hin_X4 hown hK hP 0 rfl rfl 6 (by decide) w_0 (fun _ h9 => h9) rfl dX4_waysFrom_2 ?_
  refine lv_icmp_ge (tgt := 14) hx hb dX4_waysFrom_5 (by decide) (fun c_5 => ?_) (fun c_5 => ?_)
  ·
    have n_5 : ns ≤ h := (nI_leI (show ns < 2147483648 by omega) (show h < 2147483648 by omega)).1 c_5
    refine lv_iconst (v := (1 : Int32)) hx hb dX4_waysFrom_14 (by decide) ?_
    exact hret _ (PI) _ _ _ _ (rfl) (⟨by rw [show q = 0 by omega]; rfl, fun _ _ => rfl⟩) hP hD hS dX4_waysFrom_15
  ·
    have n_5 : h < ns := Nat.lt_of_not_le (fun q => c_5 ((nI_leI (show ns < 2147483648 by omega) (show h < 2147483648 by omega)).2 q))
    refine lv_iload_n hx hb dX4_waysFrom_8 rfl (lv_at hl 1 rfl) ?_
    refine lv_bipush (v := (8 : Int32)) hx hb dX4_waysFrom_9 (by decide) ?_
    refine lv_icmp_lt (tgt := 16) hx hb dX4_waysFrom_11 (by decide) (fun c_11 => ?_) (fun c_11 => ?_)
    ·
      have n_11 : h < 8 := (nI_ltI (show h < 2147483648 by omega) (show 8 < 2147483648 by omega)).1 c_11
      refine lv_aload_n hx hb dX4_waysFrom_16 rfl (lv_at hl 0 rfl) ?_
      refine lv_iload_n hx hb dX4_waysFrom_17 rfl (lv_at hl 1 rfl) ?_
      refine xcV_i (As := [.int (nI h)]) (rest := []) (wc := [(e0, .inr (3, [.ref e1, .ref e2, .ref e3, .ref e4, .ref e5, .ref e6, .int (nI ns), .int (nI ks), .int (nI LL)])), (e1, .inl (cI, 8, .inl (rI NE))), (e2, .inl (cI, 8, .inl (rI AL))), (e3, .inl (cI, 8, .inl (rI PI))), (e4, .inl (cI, 8, .inl (rI BE))), (e5, .inl (cI, 32, .inl (rI CO))), (e6, .inl (cI, 9, .inl (rI AH)))]) (wr := []) (w3 := fun (u : Unit) => [(e0, .inr (3, [.ref e1, .ref e2, .ref e3, .ref e4, .ref e5, .ref e6, .int (nI ns), .int (nI ks), .int (nI LL)])), (e1, .inl (cI, 8, .inl (rI NE))), (e2, .inl (cI, 8, .inl (rI AL))), (e3, .inl (cI, 8, .inl (rI PI))), (e4, .inl (cI, 8, .inl (rI BE))), (e5, .inl (cI, 32, .inl (rI CO))), (e6, .inl (cI, 9, .inl (rI AH)))]) ⟨hx, hb, hml, hown, hts⟩ (c_X4_freeSorts l D cI cZ cO H.size gR gD gK gV e0 e1 e2 e3 e4 e5 e6 ns ks LL NE AL PI BE CO AH h (by first | assumption | omega | rfl) (Nat.lt_of_lt_of_le (hA2 h (by omega)) (Nat.pow_le_pow_right (n := 2) (by omega) hks)) (hN2 h (by omega)) (fun g hg hb9 => hPI g hg h (Nat.le_refl _) (by omega) hb9)) (cwV 1 hts gX4_waysFrom_X4_freeSorts rfl rfl rfl (by decide +kernel) ⟨(by show 0 + 1 ≤ q + 1; omega), (by show 8 + (4 + 11) + 0 ≤ 25 * (q + 1); omega)⟩) (xGdc gR gD gK gV) (xGdc gR gD gK gV) (fun _ _ _ h => h) hG hP hD hK hS hA [0, 1, 2, 3, 4, 5, 6] [] [0, 1, 2, 3, 4, 5, 6] rfl rfl rfl rfl rfl 0 rfl rfl rfl (fun _ => rfl) rfl rfl hl.1 (Nat.le_of_ble_eq_true rfl) dX4_waysFrom_18 ⟨Nat.zero_le _, Nat.zero_le _⟩ (fun r u H locs hw hP hD hS => ?_)
      obtain ⟨rfl, hw⟩ := hw
      have hw_18 : True := hw
      have hP : va_P D vwCl [(e0, .inr (3, [.ref e1, .ref e2, .ref e3, .ref e4, .ref e5, .ref e6, .int (nI ns), .int (nI ks), .int (nI LL)])), (e1, .inl (cI, 8, .inl (rI NE))), (e2, .inl (cI, 8, .inl (rI AL))), (e3, .inl (cI, 8, .inl (rI PI))), (e4, .inl (cI, 8, .inl (rI BE))), (e5, .inl (cI, 32, .inl (rI CO))), (e6, .inl (cI, 9, .inl (rI AH)))] H := hP
      have hD : va_D A [(e0, .inr (3, [.ref e1, .ref e2, .ref e3, .ref e4, .ref e5, .ref e6, .int (nI ns), .int (nI ks), .int (nI LL)])), (e1, .inl (cI, 8, .inl (rI NE))), (e2, .inl (cI, 8, .inl (rI AL))), (e3, .inl (cI, 8, .inl (rI PI))), (e4, .inl (cI, 8, .inl (rI BE))), (e5, .inl (cI, 32, .inl (rI CO))), (e6, .inl (cI, 9, .inl (rI AH)))] := hD
      refine lv_istore_n (lv' := [(2, .int (nI (frM (AL h) (NE h) PI h))), (0, .ref e0), (1, .int (nI h))]) hx hb dX4_waysFrom_21 rfl hl (by decide) rfl (fun ls hl => ?_)
      refine lv_aload_n hx hb dX4_waysFrom_22 rfl (lv_at hl 1 rfl) ?_
      refine va_get (D := D) (ci := 3) (v := .ref e1) (C := RX4) (T := TX4) (N := 9) hx hb hts hin_X4 hown hK hP 0 rfl rfl 0 (by decide) w_1 (fun _ h9 => h9) rfl dX4_waysFrom_23 ?_
      refine lv_iload_n hx hb dX4_waysFrom_26 rfl (lv_at hl 2 rfl) ?_
      refine x_iald hx hb hK hP 1 0 rfl rfl (j := h) (by omega) (by decide) dX4_waysFrom_27 ?_
      refine lv_iload_n hx hb dX4_waysFrom_28 rfl (lv_at hl 2 rfl) ?_
      refine lv_iconst (v := (1 : Int32)) hx hb dX4_waysFrom_29 (by decide) ?_
      refine lv_iadd hx hb dX4_waysFrom_30 ?_
      refine lv_topr (x' := nI (h + 1)) (nI_add h 1) ?_
      refine lv_ishr hx hb dX4_waysFrom_31 ?_
      refine lv_topr (x' := nI (NE h / 2 ^ (h + 1))) (shr_9 (hN2 h (by omega)) (by omega)) ?_
      have hdl : NE h / 2 ^ (h + 1) < 256 := Nat.lt_of_le_of_lt (Nat.div_le_self _ _) (hN2 h (by omega))
      refine lv_if_ne (tgt := 39) hx hb dX4_waysFrom_32 (by decide) (fun c_32 => ?_) (fun c_32 => ?_)
      ·
        have n_32 : ¬ (NE h / 2 ^ (h + 1)) = 0 := fun q => c_32 (congrArg nI q)
        
        refine lv_iconst (v := (0 : Int32)) hx hb dX4_waysFrom_39 (by decide) ?_
        refine lv_istore_n (lv' := [(3, .int (0 : Int32)), (2, .int (nI (frM (AL h) (NE h) PI h))), (0, .ref e0), (1, .int (nI h))]) hx hb dX4_waysFrom_40 rfl hl (by decide) rfl (fun ls hl => ?_)
        refine lv_iload_n hx hb dX4_waysFrom_41 rfl (lv_at hl 0 rfl) ?_
        refine lv_if_eq (tgt := 58) hx hb dX4_waysFrom_42 (by decide) (fun c_42 => ?_) (fun c_42 => ?_)
        ·
          refine lv_iconst (v := (0 : Int32)) hx hb dX4_waysFrom_58 (by decide) ?_
          refine lv_istore (lv' := [(4, .int (0 : Int32)), (3, .int (0 : Int32)), (2, .int (nI (frM (AL h) (NE h) PI h))), (0, .ref e0), (1, .int (nI h))]) hx hb dX4_waysFrom_59 hl (by decide) rfl (fun ls hl => ?_)
          refine lv_iconst (v := (0 : Int32)) hx hb dX4_waysFrom_61 (by decide) ?_
          refine lv_istore (lv' := [(5, .int (0 : Int32)), (4, .int (0 : Int32)), (3, .int (0 : Int32)), (2, .int (nI (frM (AL h) (NE h) PI h))), (0, .ref e0), (1, .int (nI h))]) hx hb dX4_waysFrom_62 hl (by decide) rfl (fun ls hl => ?_)
          have L_64 : ∀ (fuel : Nat) (PIa : Nat → Nat) (sm : Nat) (sv : Nat), (sv ≤ ks) → (sm = sumN (fun v => if (frM (AL h) (NE h) PI h).testBit v = true then wF ns ks AL NE (q - 1) (updN PI h v) else 0) sv) → (∀ j, j < h → PIa j = PI j) → (ks - sv) < fuel → ∀ (H : Heap) (locs : List Loc), va_P D vwCl [(e0, .inr (3, [.ref e1, .ref e2, .ref e3, .ref e4, .ref e5, .ref e6, .int (nI ns), .int (nI ks), .int (nI LL)])), (e1, .inl (cI, 8, .inl (rI NE))), (e2, .inl (cI, 8, .inl (rI AL))), (e3, .inl (cI, 8, .inl (rI PIa))), (e4, .inl (cI, 8, .inl (rI BE))), (e5, .inl (cI, 32, .inl (rI CO))), (e6, .inl (cI, 9, .inl (rI AH)))] H → va_D A [(e0, .inr (3, [.ref e1, .ref e2, .ref e3, .ref e4, .ref e5, .ref e6, .int (nI ns), .int (nI ks), .int (nI LL)])), (e1, .inl (cI, 8, .inl (rI NE))), (e2, .inl (cI, 8, .inl (rI AL))), (e3, .inl (cI, 8, .inl (rI PIa))), (e4, .inl (cI, 8, .inl (rI BE))), (e5, .inl (cI, 32, .inl (rI CO))), (e6, .inl (cI, 9, .inl (rI AH)))] → va_S A s.heap H locs → ∀ ls : Array Slot, lv_has ls 6 [(5, .int (nI sv)), (4, .int (nI sm)), (3, .int (0 : Int32)), (2, .int (nI (frM (AL h) (NE h) PI h))), (0, .ref e0), (1, .int (nI h))] → W p l e (xRm (q + 1) (25 * (q + 1))) s m ([.ref e0, .int (nI h)] : List Value).toArray below meth c H locs 0 0 Q (F0 m 64 ls []) := by
            intro fuel
            induction fuel with
            | zero =>
              intro PIa sm sv hs hsm hPa hm
              exact absurd hm (Nat.not_lt_zero _)
            | succ fuel ih_64 =>
              intro PIa sm sv hs hsm hPa hm_64 H locs hP hD hS ls hl
              refine lv_iload hx hb dX4_waysFrom_64 (lv_at hl 0 rfl) ?_
              refine lv_aload_n hx hb dX4_waysFrom_66 rfl (lv_at hl 4 rfl) ?_
              refine va_get (D := D) (ci := 3) (v := .int (nI ks)) (C := RX4) (T := TX4) (N := 9) hx hb hts hin_X4 hown hK hP 0 rfl rfl 7 (by decide) w_2 (fun _ h9 => h9) rfl dX4_waysFrom_67 ?_
              refine lv_icmp_ge (tgt := 109) hx hb dX4_waysFrom_70 (by decide) (fun c_70 => ?_) (fun c_70 => ?_)
              ·
                have n_70 : ks ≤ sv := (nI_leI (show ks < 2147483648 by omega) (show sv < 2147483648 by omega)).1 c_70
                refine lv_iload hx hb dX4_waysFrom_109 (lv_at hl 1 rfl) ?_
                exact hret _ (PIa) _ _ _ _ (rfl) (⟨by rw [hsm, show sv = ks by omega, ways_out (by omega) hq], hPa⟩) hP hD hS dX4_waysFrom_111
              ·
                have n_70 : sv < ks := Nat.lt_of_not_le (fun q => c_70 ((nI_leI (show ks < 2147483648 by omega) (show sv < 2147483648 by omega)).2 q))
                refine lv_iload_n hx hb dX4_waysFrom_73 rfl (lv_at hl 3 rfl) ?_
                refine lv_iload hx hb dX4_waysFrom_74 (lv_at hl 0 rfl) ?_
                refine lv_ishr hx hb dX4_waysFrom_76 ?_
                refine lv_iconst (v := (1 : Int32)) hx hb dX4_waysFrom_77 (by decide) ?_
                refine lv_iand hx hb dX4_waysFrom_78 ?_
                refine lv_topr (x' := bb ((frM (AL h) (NE h) PI h).testBit sv)) (bit_a (Nat.lt_of_lt_of_le (frM_lt2 (hA2 h (by omega)) h) (Nat.le_trans (Nat.pow_le_pow_right (n := 2) (by omega) hks) (by decide))) (by omega)) ?_
                refine lv_iconst (v := (1 : Int32)) hx hb dX4_waysFrom_79 (by decide) ?_
                refine lv_icmp_ne (tgt := 103) hx hb dX4_waysFrom_80 (by decide) (fun c_80 => ?_) (fun c_80 => ?_)
                ·
                  have b_80 : ((frM (AL h) (NE h) PI h).testBit sv) = false := bb_neq1 c_80
                  refine lv_iinc (v := nI (sv + 1)) (lv' := [(5, .int (nI (sv + 1))), (4, .int (nI sm)), (3, .int (0 : Int32)), (2, .int (nI (frM (AL h) (NE h) PI h))), (0, .ref e0), (1, .int (nI h))]) hx hb dX4_waysFrom_103 hl (k := 0) rfl (by first | rfl | exact nI_add _ 1 | (simp only [] ; exact nI_add _ 1)) (by decide) rfl (fun ls hl => ?_)
                  refine lv_goto (tgt := 64) hx hb dX4_waysFrom_106 (by decide) ?_
                  exact ih_64 PIa sm (sv + 1) (by omega) (by rw [sumN, if_neg (bfne b_80), hsm, Nat.add_zero]) (hPa) (by omega) _ _ hP hD hS _ (lv_sub hl [0, 1, 2, 3, 4, 5] rfl)
                ·
                  have b_80 : ((frM (AL h) (NE h) PI h).testBit sv) = true := bb_eq1 c_80
                  refine lv_aload_n hx hb dX4_waysFrom_83 rfl (lv_at hl 4 rfl) ?_
                  refine va_get (D := D) (ci := 3) (v := .ref e3) (C := RX4) (T := TX4) (N := 9) hx hb hts hin_X4 hown hK hP 0 rfl rfl 2 (by decide) w_3 (fun _ h9 => h9) rfl dX4_waysFrom_84 ?_
                  refine lv_iload_n hx hb dX4_waysFrom_87 rfl (lv_at hl 5 rfl) ?_
                  refine lv_iload hx hb dX4_waysFrom_88 (lv_at hl 0 rfl) ?_
                  refine x_iastN hx hb hK hP hD hS 3 0 rfl rfl (j := h) (by omega) (by decide) dX4_waysFrom_90 (fun H locs hP hD hS => ?_)
                  have hP : va_P D vwCl [(e0, .inr (3, [.ref e1, .ref e2, .ref e3, .ref e4, .ref e5, .ref e6, .int (nI ns), .int (nI ks), .int (nI LL)])), (e1, .inl (cI, 8, .inl (rI NE))), (e2, .inl (cI, 8, .inl (rI AL))), (e3, .inl (cI, 8, .inl (rI (updN PIa h sv)))), (e4, .inl (cI, 8, .inl (rI BE))), (e5, .inl (cI, 32, .inl (rI CO))), (e6, .inl (cI, 9, .inl (rI AH)))] H := hP
                  have hD : va_D A [(e0, .inr (3, [.ref e1, .ref e2, .ref e3, .ref e4, .ref e5, .ref e6, .int (nI ns), .int (nI ks), .int (nI LL)])), (e1, .inl (cI, 8, .inl (rI NE))), (e2, .inl (cI, 8, .inl (rI AL))), (e3, .inl (cI, 8, .inl (rI (updN PIa h sv)))), (e4, .inl (cI, 8, .inl (rI BE))), (e5, .inl (cI, 32, .inl (rI CO))), (e6, .inl (cI, 9, .inl (rI AH)))] := hD
                  refine lv_iload hx hb dX4_waysFrom_91 (lv_at hl 1 rfl) ?_
                  refine lv_aload_n hx hb dX4_waysFrom_93 rfl (lv_at hl 4 rfl) ?_
                  refine lv_iload_n hx hb dX4_waysFrom_94 rfl (lv_at hl 5 rfl) ?_
                  refine lv_iconst (v := (1 : Int32)) hx hb dX4_waysFrom_95 (by decide) ?_
                  refine lv_iadd hx hb dX4_waysFrom_96 ?_
                  refine lv_topr (x' := nI (h + 1)) (nI_add h 1) ?_
                  refine xcS_i (As := [.ref e0, .int (nI (h + 1))]) (rest := [.int (nI sm)]) (wc := [(e0, .inr (3, [.ref e1, .ref e2, .ref e3, .ref e4, .ref e5, .ref e6, .int (nI ns), .int (nI ks), .int (nI LL)])), (e1, .inl (cI, 8, .inl (rI NE))), (e2, .inl (cI, 8, .inl (rI AL))), (e3, .inl (cI, 8, .inl (rI (updN PIa h sv)))), (e4, .inl (cI, 8, .inl (rI BE))), (e5, .inl (cI, 32, .inl (rI CO))), (e6, .inl (cI, 9, .inl (rI AH)))]) (wr := []) (w3 := fun (u : (Nat → Nat)) => [(e0, .inr (3, [.ref e1, .ref e2, .ref e3, .ref e4, .ref e5, .ref e6, .int (nI ns), .int (nI ks), .int (nI LL)])), (e1, .inl (cI, 8, .inl (rI NE))), (e2, .inl (cI, 8, .inl (rI AL))), (e3, .inl (cI, 8, .inl (rI u))), (e4, .inl (cI, 8, .inl (rI BE))), (e5, .inl (cI, 32, .inl (rI CO))), (e6, .inl (cI, 9, .inl (rI AH)))]) ⟨hx, hb, hml, hown, hts⟩ (ihq (q - 1) (by omega) H.size gR gD gK gV e0 e1 e2 e3 e4 e5 e6 ns ks LL NE AL (updN PIa h sv) BE CO AH (h + 1) (by first | assumption | omega | rfl) (by first | assumption | omega | rfl) (by omega) (by first | assumption | omega | rfl) (hA2) (hN2) (hsy) (fun g hg j h1 h2 h3 => by rcases Nat.lt_or_ge g h with z | z; rw [updN_n (by omega), hPa g z]; exact hPI g z j (by omega) h2 h3; rw [show g = h by omega, updN_s]; omega)) (va_cwS 2 hts gX4_waysFrom_X4_waysFrom rfl rfl rfl (by decide +kernel) ⟨(by show ((q - 1) + 1) + 1 ≤ q + 1; omega), (by show 8 + (6 + 11) + (25 * ((q - 1) + 1)) ≤ 25 * (q + 1); omega)⟩) (xGdc gR gD gK gV) (xGdc gR gD gK gV) (fun _ _ _ h => h) hG hP hD hK hS hA [0, 1, 2, 3, 4, 5, 6] [] [0, 1, 2, 3, 4, 5, 6] rfl rfl rfl rfl rfl rfl (fun _ => rfl) rfl rfl hl.1 (Nat.le_of_ble_eq_true rfl) dX4_waysFrom_97 ⟨Nat.zero_le _, Nat.zero_le _⟩ (fun r u H locs hw hP hD hS => ?_)
                  obtain ⟨z_1, rfl⟩ : ∃ z, z = u := ⟨_, rfl⟩
                  obtain ⟨rfl, hw⟩ := hw
                  have hw_97 : ∀ j, j < (h + 1) → z_1 j = (updN PIa h sv) j := hw
                  have hP : va_P D vwCl [(e0, .inr (3, [.ref e1, .ref e2, .ref e3, .ref e4, .ref e5, .ref e6, .int (nI ns), .int (nI ks), .int (nI LL)])), (e1, .inl (cI, 8, .inl (rI NE))), (e2, .inl (cI, 8, .inl (rI AL))), (e3, .inl (cI, 8, .inl (rI z_1))), (e4, .inl (cI, 8, .inl (rI BE))), (e5, .inl (cI, 32, .inl (rI CO))), (e6, .inl (cI, 9, .inl (rI AH)))] H := hP
                  have hD : va_D A [(e0, .inr (3, [.ref e1, .ref e2, .ref e3, .ref e4, .ref e5, .ref e6, .int (nI ns), .int (nI ks), .int (nI LL)])), (e1, .inl (cI, 8, .inl (rI NE))), (e2, .inl (cI, 8, .inl (rI AL))), (e3, .inl (cI, 8, .inl (rI z_1))), (e4, .inl (cI, 8, .inl (rI BE))), (e5, .inl (cI, 32, .inl (rI CO))), (e6, .inl (cI, 9, .inl (rI AH)))] := hD
                  refine lv_iadd hx hb dX4_waysFrom_100 ?_
                  refine lv_topr (x' := nI (sm + (wF ns ks AL NE (q - 1) (updN PIa h sv)))) (nI_add sm (wF ns ks AL NE (q - 1) (updN PIa h sv))) ?_
                  refine lv_istore (lv' := [(4, .int (nI (sm + (wF ns ks AL NE (q - 1) (updN PIa h sv))))), (5, .int (nI sv)), (3, .int (0 : Int32)), (2, .int (nI (frM (AL h) (NE h) PI h))), (0, .ref e0), (1, .int (nI h))]) hx hb dX4_waysFrom_101 hl (by decide) rfl (fun ls hl => ?_)
                  refine lv_iinc (v := nI (sv + 1)) (lv' := [(5, .int (nI (sv + 1))), (4, .int (nI (sm + (wF ns ks AL NE (q - 1) (updN PIa h sv))))), (3, .int (0 : Int32)), (2, .int (nI (frM (AL h) (NE h) PI h))), (0, .ref e0), (1, .int (nI h))]) hx hb dX4_waysFrom_103 hl (k := 1) rfl (by first | rfl | exact nI_add _ 1 | (simp only [] ; exact nI_add _ 1)) (by decide) rfl (fun ls hl => ?_)
                  refine lv_goto (tgt := 64) hx hb dX4_waysFrom_106 (by decide) ?_
                  exact ih_64 z_1 (sm + (wF ns ks AL NE (q - 1) (updN PIa h sv))) (sv + 1) (by omega) (by rw [sumN, if_pos b_80, hsm, ways_pick (by omega) hPa]) (pick_keep hw_97 hPa) (by omega) _ _ hP hD hS _ (lv_sub hl [0, 1, 2, 3, 4, 5] rfl)
          exact L_64 (Nat.succ (ks - 0)) PI 0 0 (Nat.zero_le _) (rfl) (fun _ _ => rfl) (Nat.lt_succ_self _) _ _ hP hD hS _ (lv_sub hl [0, 1, 2, 3, 4, 5] rfl)
        ·
          exact absurd (by decide) c_42
      ·
        have n_32 : (NE h / 2 ^ (h + 1)) = 0 := (nI_eq (show (NE h / 2 ^ (h + 1)) < 2147483648 by omega) (show 0 < 2147483648 by omega)).1 c_32
        have hno := no_later (NE := NE) n_32 (fun j h1 h2 => hsy h j h1 h2)
        refine lv_iconst (v := (1 : Int32)) hx hb dX4_waysFrom_35 (by decide) ?_
        refine lv_goto (tgt := 40) hx hb dX4_waysFrom_36 (by decide) ?_
        refine lv_istore_n (lv' := [(3, .int (1 : Int32)), (2, .int (nI (frM (AL h) (NE h) PI h))), (0, .ref e0), (1, .int (nI h))]) hx hb dX4_waysFrom_40 rfl hl (by decide) rfl (fun ls hl => ?_)
        refine lv_iload_n hx hb dX4_waysFrom_41 rfl (lv_at hl 0 rfl) ?_
        refine lv_if_eq (tgt := 58) hx hb dX4_waysFrom_42 (by decide) (fun c_42 => ?_) (fun c_42 => ?_)
        ·
          exact absurd c_42 (by decide)
        ·
          refine lv_iload_n hx hb dX4_waysFrom_45 rfl (lv_at hl 1 rfl) ?_
          refine xcS_i (As := [.int (nI (frM (AL h) (NE h) PI h))]) (rest := []) (wc := []) (wr := [(e0, .inr (3, [.ref e1, .ref e2, .ref e3, .ref e4, .ref e5, .ref e6, .int (nI ns), .int (nI ks), .int (nI LL)])), (e1, .inl (cI, 8, .inl (rI NE))), (e2, .inl (cI, 8, .inl (rI AL))), (e3, .inl (cI, 8, .inl (rI PI))), (e4, .inl (cI, 8, .inl (rI BE))), (e5, .inl (cI, 32, .inl (rI CO))), (e6, .inl (cI, 9, .inl (rI AH)))]) (w3 := fun (u : Unit) => [(e0, .inr (3, [.ref e1, .ref e2, .ref e3, .ref e4, .ref e5, .ref e6, .int (nI ns), .int (nI ks), .int (nI LL)])), (e1, .inl (cI, 8, .inl (rI NE))), (e2, .inl (cI, 8, .inl (rI AL))), (e3, .inl (cI, 8, .inl (rI PI))), (e4, .inl (cI, 8, .inl (rI BE))), (e5, .inl (cI, 32, .inl (rI CO))), (e6, .inl (cI, 9, .inl (rI AH)))]) ⟨hx, hb, hml, hown, hts⟩ (c_J6_bitCount_0f7a4 l D cI cZ cO H.size (frM (AL h) (NE h) PI h) (Nat.lt_of_lt_of_le (frM_lt2 (hA2 h (by omega)) h) (Nat.le_trans (Nat.pow_le_pow_right (n := 2) (by omega) hks) (by decide)))) (va_cwS 1 hts gX4_waysFrom_J6_bitCount_0f7a4 rfl rfl rfl (by decide +kernel) ⟨(by show 0 + 1 ≤ q + 1; omega), (by show 8 + (1 + 11) + 0 ≤ 25 * (q + 1); omega)⟩) (xGdc gR gD gK gV) xGd0 (fun _ _ _ _ => trivial) hG hP hD hK hS hA [] [0, 1, 2, 3, 4, 5, 6] [0, 1, 2, 3, 4, 5, 6] rfl rfl rfl rfl rfl rfl (fun _ => rfl) rfl rfl hl.1 (Nat.le_of_ble_eq_true rfl) dX4_waysFrom_46 ⟨Nat.zero_le _, Nat.zero_le _⟩ (fun r u H locs hw hP hD hS => ?_)
          obtain ⟨rfl, hw⟩ := hw
          have hw_46 : True := hw
          have hP : va_P D vwCl [(e0, .inr (3, [.ref e1, .ref e2, .ref e3, .ref e4, .ref e5, .ref e6, .int (nI ns), .int (nI ks), .int (nI LL)])), (e1, .inl (cI, 8, .inl (rI NE))), (e2, .inl (cI, 8, .inl (rI AL))), (e3, .inl (cI, 8, .inl (rI PI))), (e4, .inl (cI, 8, .inl (rI BE))), (e5, .inl (cI, 32, .inl (rI CO))), (e6, .inl (cI, 9, .inl (rI AH)))] H := hP
          have hD : va_D A [(e0, .inr (3, [.ref e1, .ref e2, .ref e3, .ref e4, .ref e5, .ref e6, .int (nI ns), .int (nI ks), .int (nI LL)])), (e1, .inl (cI, 8, .inl (rI NE))), (e2, .inl (cI, 8, .inl (rI AL))), (e3, .inl (cI, 8, .inl (rI PI))), (e4, .inl (cI, 8, .inl (rI BE))), (e5, .inl (cI, 32, .inl (rI CO))), (e6, .inl (cI, 9, .inl (rI AH)))] := hD
          refine lv_aload_n hx hb dX4_waysFrom_49 rfl (lv_at hl 2 rfl) ?_
          refine lv_iload_n hx hb dX4_waysFrom_50 rfl (lv_at hl 3 rfl) ?_
          refine lv_iconst (v := (1 : Int32)) hx hb dX4_waysFrom_51 (by decide) ?_
          refine lv_iadd hx hb dX4_waysFrom_52 ?_
          refine lv_topr (x' := nI (h + 1)) (nI_add h 1) ?_
          refine xcS_i (As := [.ref e0, .int (nI (h + 1))]) (rest := [.int (nI (popc (frM (AL h) (NE h) PI h)))]) (wc := [(e0, .inr (3, [.ref e1, .ref e2, .ref e3, .ref e4, .ref e5, .ref e6, .int (nI ns), .int (nI ks), .int (nI LL)])), (e1, .inl (cI, 8, .inl (rI NE))), (e2, .inl (cI, 8, .inl (rI AL))), (e3, .inl (cI, 8, .inl (rI PI))), (e4, .inl (cI, 8, .inl (rI BE))), (e5, .inl (cI, 32, .inl (rI CO))), (e6, .inl (cI, 9, .inl (rI AH)))]) (wr := []) (w3 := fun (u : (Nat → Nat)) => [(e0, .inr (3, [.ref e1, .ref e2, .ref e3, .ref e4, .ref e5, .ref e6, .int (nI ns), .int (nI ks), .int (nI LL)])), (e1, .inl (cI, 8, .inl (rI NE))), (e2, .inl (cI, 8, .inl (rI AL))), (e3, .inl (cI, 8, .inl (rI u))), (e4, .inl (cI, 8, .inl (rI BE))), (e5, .inl (cI, 32, .inl (rI CO))), (e6, .inl (cI, 9, .inl (rI AH)))]) ⟨hx, hb, hml, hown, hts⟩ (ihq (q - 1) (by omega) H.size gR gD gK gV e0 e1 e2 e3 e4 e5 e6 ns ks LL NE AL PI BE CO AH (h + 1) (by first | assumption | omega | rfl) (by first | assumption | omega | rfl) (by omega) (by first | assumption | omega | rfl) (hA2) (hN2) (hsy) (fun g hg j h1 h2 h3 => by rcases Nat.lt_or_ge g h with z | z; exact hPI g z j (by omega) h2 h3; exact absurd h3 (by rw [show g = h by omega, hno j (by omega) h2]; decide))) (va_cwS 2 hts gX4_waysFrom_X4_waysFrom rfl rfl rfl (by decide +kernel) ⟨(by show ((q - 1) + 1) + 1 ≤ q + 1; omega), (by show 8 + (6 + 11) + (25 * ((q - 1) + 1)) ≤ 25 * (q + 1); omega)⟩) (xGdc gR gD gK gV) (xGdc gR gD gK gV) (fun _ _ _ h => h) hG hP hD hK hS hA [0, 1, 2, 3, 4, 5, 6] [] [0, 1, 2, 3, 4, 5, 6] rfl rfl rfl rfl rfl rfl (fun _ => rfl) rfl rfl hl.1 (Nat.le_of_ble_eq_true rfl) dX4_waysFrom_53 ⟨Nat.zero_le _, Nat.zero_le _⟩ (fun r u H locs hw hP hD hS => ?_)
          obtain ⟨z_2, rfl⟩ : ∃ z, z = u := ⟨_, rfl⟩
          obtain ⟨rfl, hw⟩ := hw
          have hw_53 : ∀ j, j < (h + 1) → z_2 j = PI j := hw
          have hP : va_P D vwCl [(e0, .inr (3, [.ref e1, .ref e2, .ref e3, .ref e4, .ref e5, .ref e6, .int (nI ns), .int (nI ks), .int (nI LL)])), (e1, .inl (cI, 8, .inl (rI NE))), (e2, .inl (cI, 8, .inl (rI AL))), (e3, .inl (cI, 8, .inl (rI z_2))), (e4, .inl (cI, 8, .inl (rI BE))), (e5, .inl (cI, 32, .inl (rI CO))), (e6, .inl (cI, 9, .inl (rI AH)))] H := hP
          have hD : va_D A [(e0, .inr (3, [.ref e1, .ref e2, .ref e3, .ref e4, .ref e5, .ref e6, .int (nI ns), .int (nI ks), .int (nI LL)])), (e1, .inl (cI, 8, .inl (rI NE))), (e2, .inl (cI, 8, .inl (rI AL))), (e3, .inl (cI, 8, .inl (rI z_2))), (e4, .inl (cI, 8, .inl (rI BE))), (e5, .inl (cI, 32, .inl (rI CO))), (e6, .inl (cI, 9, .inl (rI AH)))] := hD
          refine lv_imul hx hb dX4_waysFrom_56 ?_
          refine lv_topr (x' := nI ((popc (frM (AL h) (NE h) PI h)) * (wF ns ks AL NE (q - 1) PI))) (pk_mul (popc (frM (AL h) (NE h) PI h)) (wF ns ks AL NE (q - 1) PI)) ?_
          exact hret _ (z_2) _ _ _ _ (rfl) (⟨congrArg nI (ways_flat hks (by omega) hq (hA2 h (by omega)) hno), fun j hj => hw_53 j (by omega)⟩) hP hD hS dX4_waysFrom_57
    ·
      have n_11 : 8 ≤ h := Nat.le_of_not_lt (fun q => c_11 ((nI_ltI (show h < 2147483648 by omega) (show 8 < 2147483648 by omega)).2 q))
      exact absurd n_11 (by omega)

set_option maxHeartbeats 4000000 in
set_option maxRecDepth 100000 in
theorem c_X4_waysToRoof (l : Launch) (D : va_G) (cI cZ cO : ClassId) (sz : Nat) (gR : Nat) (gD : Nat) (gK : Nat → Nat) (gV : Nat → Nat) (e0 : Nat) (e1 : Nat) (e2 : Nat) (e3 : Nat) (e4 : Nat) (e5 : Nat) (e6 : Nat) (ns : Nat) (ks : Nat) (LL : Nat) (NE : Nat → Nat) (AL : Nat → Nat) (PI : Nat → Nat) (BE : Nat → Nat) (CO : Nat → Nat) (AH : Nat → Nat) (hns : ns ≤ 8) (hks : ks ≤ 4) (hA2 : ∀ j, j < ns → AL j < 2 ^ ks) (hN2 : ∀ j, j < ns → NE j < 256) (hsy : ∀ h j, h < j → j < ns → (NE j).testBit h = (NE h).testBit j) : xMi l yX4_waysToRoof wsX4_waysToRoof (10) (250) D (TY cI cZ cO) (xGc gR gD gK gV) [.ref e0] [(e0, .inr (3, [.ref e1, .ref e2, .ref e3, .ref e4, .ref e5, .ref e6, .int (nI ns), .int (nI ks), .int (nI LL)])), (e1, .inl (cI, 8, .inl (rI NE))), (e2, .inl (cI, 8, .inl (rI AL))), (e3, .inl (cI, 8, .inl (rI PI))), (e4, .inl (cI, 8, .inl (rI BE))), (e5, .inl (cI, 32, .inl (rI CO))), (e6, .inl (cI, 9, .inl (rI AH)))] sz (fun (rv_ : Int32) (u : (Nat → Nat)) => rv_ = (nI (wF ns ks AL NE ns PI)) ∧ (True)) (fun (u : (Nat → Nat)) => [(e0, .inr (3, [.ref e1, .ref e2, .ref e3, .ref e4, .ref e5, .ref e6, .int (nI ns), .int (nI ks), .int (nI LL)])), (e1, .inl (cI, 8, .inl (rI NE))), (e2, .inl (cI, 8, .inl (rI AL))), (e3, .inl (cI, 8, .inl (rI u))), (e4, .inl (cI, 8, .inl (rI BE))), (e5, .inl (cI, 32, .inl (rI CO))), (e6, .inl (cI, 9, .inl (rI AH)))]) := by
  refine xMi.of (cc := cX4_waysToRoof) (maxL := 1) (by decide +kernel) rfl (Nat.le_of_ble_eq_true rfl) ?_
  intro p e s m below meth c A Q H hx hb hml hown hts hA hP hD hK hS hG hret ls hl
  have hown : s.vm.findClass RX4 = some m.cls := hown
  have hP : va_P D vwCl [(e0, .inr (3, [.ref e1, .ref e2, .ref e3, .ref e4, .ref e5, .ref e6, .int (nI ns), .int (nI ks), .int (nI LL)])), (e1, .inl (cI, 8, .inl (rI NE))), (e2, .inl (cI, 8, .inl (rI AL))), (e3, .inl (cI, 8, .inl (rI PI))), (e4, .inl (cI, 8, .inl (rI BE))), (e5, .inl (cI, 32, .inl (rI CO))), (e6, .inl (cI, 9, .inl (rI AH)))] H := hP
  have hD : va_D A [(e0, .inr (3, [.ref e1, .ref e2, .ref e3, .ref e4, .ref e5, .ref e6, .int (nI ns), .int (nI ks), .int (nI LL)])), (e1, .inl (cI, 8, .inl (rI NE))), (e2, .inl (cI, 8, .inl (rI AL))), (e3, .inl (cI, 8, .inl (rI PI))), (e4, .inl (cI, 8, .inl (rI BE))), (e5, .inl (cI, 32, .inl (rI CO))), (e6, .inl (cI, 9, .inl (rI AH)))] := hD
  have hl : lv_has ls 1 [(0, .ref e0)] := hl
  have _h0 : True := trivial
  refine lv_aload_n hx hb dX4_waysToRoof_0 rfl (lv_at hl 0 rfl) ?_
  refine lv_iconst (v := (0 : Int32)) hx hb dX4_waysToRoof_1 (by decide) ?_
  refine xcS_i (As := [.ref e0, .int (0 : Int32)]) (rest := []) (wc := [(e0, .inr (3, [.ref e1, .ref e2, .ref e3, .ref e4, .ref e5, .ref e6, .int (nI ns), .int (nI ks), .int (nI LL)])), (e1, .inl (cI, 8, .inl (rI NE))), (e2, .inl (cI, 8, .inl (rI AL))), (e3, .inl (cI, 8, .inl (rI PI))), (e4, .inl (cI, 8, .inl (rI BE))), (e5, .inl (cI, 32, .inl (rI CO))), (e6, .inl (cI, 9, .inl (rI AH)))]) (wr := []) (w3 := fun (u : (Nat → Nat)) => [(e0, .inr (3, [.ref e1, .ref e2, .ref e3, .ref e4, .ref e5, .ref e6, .int (nI ns), .int (nI ks), .int (nI LL)])), (e1, .inl (cI, 8, .inl (rI NE))), (e2, .inl (cI, 8, .inl (rI AL))), (e3, .inl (cI, 8, .inl (rI u))), (e4, .inl (cI, 8, .inl (rI BE))), (e5, .inl (cI, 32, .inl (rI CO))), (e6, .inl (cI, 9, .inl (rI AH)))]) ⟨hx, hb, hml, hown, hts⟩ (c_X4_waysFrom l D cI cZ cO ns H.size gR gD gK gV e0 e1 e2 e3 e4 e5 e6 ns ks LL NE AL PI BE CO AH 0 (by first | assumption | omega | rfl) (by first | assumption | omega | rfl) (Nat.sub_zero _) (Nat.zero_le _) (hA2) (hN2) (hsy) (fun g hg => absurd hg (Nat.not_lt_zero _))) (va_cwS 2 hts gX4_waysToRoof_X4_waysFrom rfl rfl rfl (by decide +kernel) ⟨(by show (ns + 1) + 1 ≤ 10; omega), (by show 8 + (6 + 11) + (25 * (ns + 1)) ≤ 250; omega)⟩) (xGdc gR gD gK gV) (xGdc gR gD gK gV) (fun _ _ _ h => h) hG hP hD hK hS hA [0, 1, 2, 3, 4, 5, 6] [] [0, 1, 2, 3, 4, 5, 6] rfl rfl rfl rfl rfl rfl (fun _ => rfl) rfl rfl hl.1 (Nat.le_of_ble_eq_true rfl) dX4_waysToRoof_2 ⟨Nat.zero_le _, Nat.zero_le _⟩ (fun r u H locs hw hP hD hS => ?_)
  obtain ⟨z_1, rfl⟩ : ∃ z, z = u := ⟨_, rfl⟩
  obtain ⟨rfl, hw⟩ := hw
  have hw_2 : ∀ j, j < 0 → z_1 j = PI j := hw
  have hP : va_P D vwCl [(e0, .inr (3, [.ref e1, .ref e2, .ref e3, .ref e4, .ref e5, .ref e6, .int (nI ns), .int (nI ks), .int (nI LL)])), (e1, .inl (cI, 8, .inl (rI NE))), (e2, .inl (cI, 8, .inl (rI AL))), (e3, .inl (cI, 8, .inl (rI z_1))), (e4, .inl (cI, 8, .inl (rI BE))), (e5, .inl (cI, 32, .inl (rI CO))), (e6, .inl (cI, 9, .inl (rI AH)))] H := hP
  have hD : va_D A [(e0, .inr (3, [.ref e1, .ref e2, .ref e3, .ref e4, .ref e5, .ref e6, .int (nI ns), .int (nI ks), .int (nI LL)])), (e1, .inl (cI, 8, .inl (rI NE))), (e2, .inl (cI, 8, .inl (rI AL))), (e3, .inl (cI, 8, .inl (rI z_1))), (e4, .inl (cI, 8, .inl (rI BE))), (e5, .inl (cI, 32, .inl (rI CO))), (e6, .inl (cI, 9, .inl (rI AH)))] := hD
  exact hret _ (z_1) _ _ _ _ (rfl) (⟨rfl, trivial⟩) hP hD hS dX4_waysToRoof_5

set_option maxHeartbeats 4000000 in
set_option maxRecDepth 100000 in
theorem c_X4_find (l : Launch) (D : va_G) (cI cZ cO : ClassId) (sz : Nat) (gR : Nat) (gD : Nat) (gK : Nat → Nat) (gV : Nat → Nat) (e0 : Nat) (e1 : Nat) (e2 : Nat) (e3 : Nat) (e4 : Nat) (e5 : Nat) (e6 : Nat) (ns : Nat) (ks : Nat) (LL : Nat) (NE : Nat → Nat) (AL : Nat → Nat) (PI : Nat → Nat) (BE : Nat → Nat) (CO : Nat → Nat) (AH : Nat → Nat) (Aw : Nat → Nat → Bool) (Lw : Nat → Nat → Bool) (cf : Nat → Nat → Nat) (hns : ns ≤ 8) (hks : ks ≤ 4) (hAL : ∀ j, j < ns → AL j < 16 ∧ ∀ v, v < ks → (AL j).testBit v = Aw j v) (hNE : ∀ j, j < ns → NE j < 256 ∧ ∀ g, g < j → (NE j).testBit g = Lw j g) (hCO : ∀ j, j < ns → ∀ v, v < ks → CO (j * 4 + v) = cf j v ∧ cf j v ≤ 1000) : xMi l yX4_find wsX4_find (10) (250) D (TY cI cZ cO) (xGc gR gD gK gV) [.ref e0] [(e0, .inr (3, [.ref e1, .ref e2, .ref e3, .ref e4, .ref e5, .ref e6, .int (nI ns), .int (nI ks), .int (nI LL)])), (e1, .inl (cI, 8, .inl (rI NE))), (e2, .inl (cI, 8, .inl (rI AL))), (e3, .inl (cI, 8, .inl (rI PI))), (e4, .inl (cI, 8, .inl (rI BE))), (e5, .inl (cI, 32, .inl (rI CO))), (e6, .inl (cI, 9, .inl (rI AH)))] sz (fun (rv_ : Int32) (u : (Nat → Nat) × (Nat → Nat) × (Nat → Nat) × Nat × (Nat → Nat)) => rv_ = (bb (decide ((u.2.2.2.1) < 1000000))) ∧ (((u.2.2.2.1), (u.2.2.2.2)) = enumF ns ks Aw (stK Lw cf ns) ns z0 (1000000, BE) ∧ (∀ j, j < ns → (u.2.1) j = (u.2.2.2.2) j) ∧ (u.2.2.2.1) ≤ 1000000)) (fun (u : (Nat → Nat) × (Nat → Nat) × (Nat → Nat) × Nat × (Nat → Nat)) => [(e0, .inr (3, [.ref e1, .ref e2, .ref e3, .ref e4, .ref e5, .ref e6, .int (nI ns), .int (nI ks), .int (nI (u.2.2.2.1))])), (e1, .inl (cI, 8, .inl (rI NE))), (e2, .inl (cI, 8, .inl (rI AL))), (e3, .inl (cI, 8, .inl (rI (u.1)))), (e4, .inl (cI, 8, .inl (rI (u.2.1)))), (e5, .inl (cI, 32, .inl (rI CO))), (e6, .inl (cI, 9, .inl (rI (u.2.2.1))))]) := by
  refine xMi.of (cc := cX4_find) (maxL := 2) (by decide +kernel) rfl (Nat.le_of_ble_eq_true rfl) ?_
  intro p e s m below meth c A Q H hx hb hml hown hts hA hP hD hK hS hG hret ls hl
  have hown : s.vm.findClass RX4 = some m.cls := hown
  have hP : va_P D vwCl [(e0, .inr (3, [.ref e1, .ref e2, .ref e3, .ref e4, .ref e5, .ref e6, .int (nI ns), .int (nI ks), .int (nI LL)])), (e1, .inl (cI, 8, .inl (rI NE))), (e2, .inl (cI, 8, .inl (rI AL))), (e3, .inl (cI, 8, .inl (rI PI))), (e4, .inl (cI, 8, .inl (rI BE))), (e5, .inl (cI, 32, .inl (rI CO))), (e6, .inl (cI, 9, .inl (rI AH)))] H := hP
  have hD : va_D A [(e0, .inr (3, [.ref e1, .ref e2, .ref e3, .ref e4, .ref e5, .ref e6, .int (nI ns), .int (nI ks), .int (nI LL)])), (e1, .inl (cI, 8, .inl (rI NE))), (e2, .inl (cI, 8, .inl (rI AL))), (e3, .inl (cI, 8, .inl (rI PI))), (e4, .inl (cI, 8, .inl (rI BE))), (e5, .inl (cI, 32, .inl (rI CO))), (e6, .inl (cI, 9, .inl (rI AH)))] := hD
  have hl : lv_has ls 2 [(0, .ref e0)] := hl
  have w_0 := hts (.fieldLink RX4 27 "UnlikeRoofs$Search" "ahead" "[I") (List.mem_of_getElem? (i := 1) (by rfl))
  have w_1 := hts (.fieldLink RX4 36 "UnlikeRoofs$Search" "houses" "I") (List.mem_of_getElem? (i := 2) (by rfl))
  have w_2 := hts (.constant RX4 72 (1000000)) (List.mem_of_getElem? (i := 3) (by rfl))
  have w_3 := hts (.fieldLink RX4 62 "UnlikeRoofs$Search" "least" "I") (List.mem_of_getElem? (i := 4) (by rfl))
  have hin_X4 : ∀ w ∈ wsX40, w ∈ wsX4_find := fun _ h => List.mem_cons_of_mem _ (List.mem_append_right _ h)
  have _h0 : True := trivial
  refine lv_aload_n hx hb dX4_find_0 rfl (lv_at hl 0 rfl) ?_
  refine va_get (D := D) (ci := 3) (v := .ref e6) (C := RX4) (T := TX4) (N := 9) hx hb hts hin_X4 hown hK hP 0 rfl rfl 5 (by decide) w_0 (fun _ h9 => h9) rfl dX4_find_1 ?_
  refine lv_aload_n hx hb dX4_find_4 rfl (lv_at hl 0 rfl) ?_
  refine va_get (D := D) (ci := 3) (v := .int (nI ns)) (C := RX4) (T := TX4) (N := 9) hx hb hts hin_X4 hown hK hP 0 rfl rfl 6 (by decide) w_1 (fun _ h9 => h9) rfl dX4_find_5 ?_
  refine lv_iconst (v := (0 : Int32)) hx hb dX4_find_8 (by decide) ?_
  refine x_iastN hx hb hK hP hD hS 6 0 rfl rfl (j := ns) (by omega) (by decide) dX4_find_9 (fun H locs hP hD hS => ?_)
  have hP : va_P D vwCl [(e0, .inr (3, [.ref e1, .ref e2, .ref e3, .ref e4, .ref e5, .ref e6, .int (nI ns), .int (nI ks), .int (nI LL)])), (e1, .inl (cI, 8, .inl (rI NE))), (e2, .inl (cI, 8, .inl (rI AL))), (e3, .inl (cI, 8, .inl (rI PI))), (e4, .inl (cI, 8, .inl (rI BE))), (e5, .inl (cI, 32, .inl (rI CO))), (e6, .inl (cI, 9, .inl (rI (updN AH ns 0))))] H := hP
  have hD : va_D A [(e0, .inr (3, [.ref e1, .ref e2, .ref e3, .ref e4, .ref e5, .ref e6, .int (nI ns), .int (nI ks), .int (nI LL)])), (e1, .inl (cI, 8, .inl (rI NE))), (e2, .inl (cI, 8, .inl (rI AL))), (e3, .inl (cI, 8, .inl (rI PI))), (e4, .inl (cI, 8, .inl (rI BE))), (e5, .inl (cI, 32, .inl (rI CO))), (e6, .inl (cI, 9, .inl (rI (updN AH ns 0))))] := hD
  refine lv_aload_n hx hb dX4_find_10 rfl (lv_at hl 0 rfl) ?_
  refine va_get (D := D) (ci := 3) (v := .int (nI ns)) (C := RX4) (T := TX4) (N := 9) hx hb hts hin_X4 hown hK hP 0 rfl rfl 6 (by decide) w_1 (fun _ h9 => h9) rfl dX4_find_11 ?_
  refine lv_iconst (v := (1 : Int32)) hx hb dX4_find_14 (by decide) ?_
  refine lv_isub hx hb dX4_find_15 ?_
  refine lv_istore_n (lv' := [(1, .int ((nI ns) - (1 : Int32))), (0, .ref e0)]) hx hb dX4_find_16 rfl hl (by decide) rfl (fun ls hl => ?_)
  have L_17 : ∀ (fuel : Nat) (AHa : Nat → Nat) (i : Nat) (x : Int32), (i ≤ ns) → (x = nI i - 1) → (∀ h, i ≤ h → h ≤ ns → (∀ r, (∀ j, h ≤ j → j < ns → r j < ks ∧ Aw j (r j) = true) → cstN cf r h + AHa h ≤ cstN cf r ns) ∧ AHa h ≤ (ns - h) * 1000000) → (i) < fuel → ∀ (H : Heap) (locs : List Loc), va_P D vwCl [(e0, .inr (3, [.ref e1, .ref e2, .ref e3, .ref e4, .ref e5, .ref e6, .int (nI ns), .int (nI ks), .int (nI LL)])), (e1, .inl (cI, 8, .inl (rI NE))), (e2, .inl (cI, 8, .inl (rI AL))), (e3, .inl (cI, 8, .inl (rI PI))), (e4, .inl (cI, 8, .inl (rI BE))), (e5, .inl (cI, 32, .inl (rI CO))), (e6, .inl (cI, 9, .inl (rI AHa)))] H → va_D A [(e0, .inr (3, [.ref e1, .ref e2, .ref e3, .ref e4, .ref e5, .ref e6, .int (nI ns), .int (nI ks), .int (nI LL)])), (e1, .inl (cI, 8, .inl (rI NE))), (e2, .inl (cI, 8, .inl (rI AL))), (e3, .inl (cI, 8, .inl (rI PI))), (e4, .inl (cI, 8, .inl (rI BE))), (e5, .inl (cI, 32, .inl (rI CO))), (e6, .inl (cI, 9, .inl (rI AHa)))] → va_S A s.heap H locs → ∀ ls : Array Slot, lv_has ls 2 [(1, .int x), (0, .ref e0)] → W p l e (xRm 10 250) s m ([.ref e0] : List Value).toArray below meth c H locs 0 0 Q (F0 m 17 ls []) := by
    intro fuel
    induction fuel with
    | zero =>
      intro AHa i x hi hx2 ha1 hm
      exact absurd hm (Nat.not_lt_zero _)
    | succ fuel ih_17 =>
      intro AHa i x hi hx2 ha1 hm_17 H locs hP hD hS ls hl
      refine lv_iload_n hx hb dX4_find_17 rfl (lv_at hl 0 rfl) ?_
      refine lv_if_lt (tgt := 47) hx hb dX4_find_18 (by decide) (fun c_18 => ?_) (fun c_18 => ?_)
      ·
        have hi0 : i = 0 := dec_zero hx2 (by omega) c_18
        refine lv_aload_n hx hb dX4_find_47 rfl (lv_at hl 1 rfl) ?_
        refine lv_ldc hx hb hown w_2 dX4_find_48 ?_
        refine va_put (D := D) (ci := 3) (v := .int (1000000 : Int32)) (ty := .int) (C := RX4) (T := TX4) (N := 9) hx hb hts hin_X4 tyX4 tyX4_ok nmX4 hown hK hP hD hS 0 rfl rfl 8 (by decide) w_3 (fun _ h9 => h9) rfl (by decide +kernel) rfl rfl (Nat.le_of_ble_eq_true rfl) dX4_find_50 (fun H locs hP hD hS => ?_)
        have hP : va_P D vwCl [(e0, .inr (3, [.ref e1, .ref e2, .ref e3, .ref e4, .ref e5, .ref e6, .int (nI ns), .int (nI ks), .int (1000000 : Int32)])), (e1, .inl (cI, 8, .inl (rI NE))), (e2, .inl (cI, 8, .inl (rI AL))), (e3, .inl (cI, 8, .inl (rI PI))), (e4, .inl (cI, 8, .inl (rI BE))), (e5, .inl (cI, 32, .inl (rI CO))), (e6, .inl (cI, 9, .inl (rI AHa)))] H := hP
        have hD : va_D A [(e0, .inr (3, [.ref e1, .ref e2, .ref e3, .ref e4, .ref e5, .ref e6, .int (nI ns), .int (nI ks), .int (1000000 : Int32)])), (e1, .inl (cI, 8, .inl (rI NE))), (e2, .inl (cI, 8, .inl (rI AL))), (e3, .inl (cI, 8, .inl (rI PI))), (e4, .inl (cI, 8, .inl (rI BE))), (e5, .inl (cI, 32, .inl (rI CO))), (e6, .inl (cI, 9, .inl (rI AHa)))] := hD
        refine lv_aload_n hx hb dX4_find_53 rfl (lv_at hl 1 rfl) ?_
        refine lv_iconst (v := (0 : Int32)) hx hb dX4_find_54 (by decide) ?_
        refine lv_iconst (v := (0 : Int32)) hx hb dX4_find_55 (by decide) ?_
        refine xcS_v (As := [.ref e0, .int (0 : Int32), .int (0 : Int32)]) (rest := []) (wc := [(e0, .inr (3, [.ref e1, .ref e2, .ref e3, .ref e4, .ref e5, .ref e6, .int (nI ns), .int (nI ks), .int (nI 1000000)])), (e1, .inl (cI, 8, .inl (rI NE))), (e2, .inl (cI, 8, .inl (rI AL))), (e3, .inl (cI, 8, .inl (rI PI))), (e4, .inl (cI, 8, .inl (rI BE))), (e5, .inl (cI, 32, .inl (rI CO))), (e6, .inl (cI, 9, .inl (rI AHa)))]) (wr := []) (w3 := fun (u : (Nat → Nat) × (Nat → Nat) × Nat × (Nat → Nat)) => [(e0, .inr (3, [.ref e1, .ref e2, .ref e3, .ref e4, .ref e5, .ref e6, .int (nI ns), .int (nI ks), .int (nI (u.2.2.1))])), (e1, .inl (cI, 8, .inl (rI NE))), (e2, .inl (cI, 8, .inl (rI AL))), (e3, .inl (cI, 8, .inl (rI (u.1)))), (e4, .inl (cI, 8, .inl (rI (u.2.1)))), (e5, .inl (cI, 32, .inl (rI CO))), (e6, .inl (cI, 9, .inl (rI AHa)))]) ⟨hx, hb, hml, hown, hts⟩ (c_X4_seek l D cI cZ cO ns H.size gR gD gK gV e0 e1 e2 e3 e4 e5 e6 ns ks 1000000 NE AL PI BE CO AHa 0 0 BE z0 Aw Lw cf (by first | assumption | omega | rfl) (by first | assumption | omega | rfl) (Nat.sub_zero _) (Nat.zero_le _) (hAL) (hNE) (hCO) (fun h hh r hr => (ha1 h (by omega) hh).1 r hr) (fun j hj => Nat.le_trans (ha1 j (by omega) hj).2 (Nat.le_trans (Nat.mul_le_mul_right _ (show ns - j ≤ 8 by omega)) (by decide))) (fun j hj => absurd hj (Nat.not_lt_zero _)) (fun j hj => absurd hj (Nat.not_lt_zero _)) (rfl) (rfl) (Nat.zero_le _) (Nat.le_refl _) (fun _ => by decide) (fun _ _ => rfl)) (va_cwS 3 hts gX4_find_X4_seek rfl rfl rfl (by decide +kernel) ⟨(by show (ns + 1) + 1 ≤ 10; omega), (by show 8 + (6 + 11) + (25 * (ns + 1)) ≤ 250; omega)⟩) (xGdc gR gD gK gV) (xGdc gR gD gK gV) (fun _ _ _ h => h) hG hP hD hK hS hA [0, 1, 2, 3, 4, 5, 6] [] [0, 1, 2, 3, 4, 5, 6] rfl rfl rfl rfl rfl rfl (fun _ => rfl) rfl rfl hl.1 (Nat.le_of_ble_eq_true rfl) dX4_find_56 ⟨Nat.zero_le _, Nat.zero_le _⟩ (fun u H locs hw hP hD hS => ?_)
        obtain ⟨z_1, z_2, z_3, z_4⟩ := u
        have hw_56 : (z_3, z_4) = enumF ns ks Aw (stK Lw cf ns) ns z0 (1000000, BE) ∧ (∀ j, j < ns → z_2 j = z_4 j) ∧ (∀ j, j < 0 → z_1 j = PI j) ∧ z_3 ≤ 1000000 := hw
        have hP : va_P D vwCl [(e0, .inr (3, [.ref e1, .ref e2, .ref e3, .ref e4, .ref e5, .ref e6, .int (nI ns), .int (nI ks), .int (nI z_3)])), (e1, .inl (cI, 8, .inl (rI NE))), (e2, .inl (cI, 8, .inl (rI AL))), (e3, .inl (cI, 8, .inl (rI z_1))), (e4, .inl (cI, 8, .inl (rI z_2))), (e5, .inl (cI, 32, .inl (rI CO))), (e6, .inl (cI, 9, .inl (rI AHa)))] H := hP
        have hD : va_D A [(e0, .inr (3, [.ref e1, .ref e2, .ref e3, .ref e4, .ref e5, .ref e6, .int (nI ns), .int (nI ks), .int (nI z_3)])), (e1, .inl (cI, 8, .inl (rI NE))), (e2, .inl (cI, 8, .inl (rI AL))), (e3, .inl (cI, 8, .inl (rI z_1))), (e4, .inl (cI, 8, .inl (rI z_2))), (e5, .inl (cI, 32, .inl (rI CO))), (e6, .inl (cI, 9, .inl (rI AHa)))] := hD
        have hl6 := hw_56.2.2.2
        refine lv_aload_n hx hb dX4_find_59 rfl (lv_at hl 1 rfl) ?_
        refine va_get (D := D) (ci := 3) (v := .int (nI z_3)) (C := RX4) (T := TX4) (N := 9) hx hb hts hin_X4 hown hK hP 0 rfl rfl 8 (by decide) w_3 (fun _ h9 => h9) rfl dX4_find_60 ?_
        refine lv_ldc hx hb hown w_2 dX4_find_63 ?_
        refine lv_icmp_ge (tgt := 72) hx hb dX4_find_65 (by decide) (fun c_65 => ?_) (fun c_65 => ?_)
        ·
          have n_65 : 1000000 ≤ z_3 := (nI_leI (show 1000000 < 2147483648 by omega) (show z_3 < 2147483648 by omega)).1 c_65
          refine lv_iconst (v := (0 : Int32)) hx hb dX4_find_72 (by decide) ?_
          exact hret _ (z_1, z_2, AHa, z_3, z_4) _ _ _ _ (rfl) (⟨by first | exact bbT n_65 | exact bbF (Nat.not_lt.2 n_65), hw_56.1, hw_56.2.1, hw_56.2.2.2⟩) hP hD hS dX4_find_73
        ·
          have n_65 : z_3 < 1000000 := Nat.lt_of_not_le (fun q => c_65 ((nI_leI (show 1000000 < 2147483648 by omega) (show z_3 < 2147483648 by omega)).2 q))
          refine lv_iconst (v := (1 : Int32)) hx hb dX4_find_68 (by decide) ?_
          refine lv_goto (tgt := 73) hx hb dX4_find_69 (by decide) ?_
          exact hret _ (z_1, z_2, AHa, z_3, z_4) _ _ _ _ (rfl) (⟨by first | exact bbT n_65 | exact bbF (Nat.not_lt.2 n_65), hw_56.1, hw_56.2.1, hw_56.2.2.2⟩) hP hD hS dX4_find_73
      ·
        obtain ⟨i2, rfl⟩ := dec_pos hx2 (by omega) c_18
        obtain rfl : x = nI i2 := hx2.trans (nI_pred i2)
        have hb1 := (ha1 (i2 + 1) (Nat.le_refl _) (by omega)).2
        have hb2 := lcN_le (AL i2) (fun v => CO (i2 * 4 + v)) ks
        refine lv_aload_n hx hb dX4_find_21 rfl (lv_at hl 1 rfl) ?_
        refine va_get (D := D) (ci := 3) (v := .ref e6) (C := RX4) (T := TX4) (N := 9) hx hb hts hin_X4 hown hK hP 0 rfl rfl 5 (by decide) w_0 (fun _ h9 => h9) rfl dX4_find_22 ?_
        refine lv_iload_n hx hb dX4_find_25 rfl (lv_at hl 0 rfl) ?_
        refine lv_aload_n hx hb dX4_find_26 rfl (lv_at hl 1 rfl) ?_
        refine va_get (D := D) (ci := 3) (v := .ref e6) (C := RX4) (T := TX4) (N := 9) hx hb hts hin_X4 hown hK hP 0 rfl rfl 5 (by decide) w_0 (fun _ h9 => h9) rfl dX4_find_27 ?_
        refine lv_iload_n hx hb dX4_find_30 rfl (lv_at hl 0 rfl) ?_
        refine lv_iconst (v := (1 : Int32)) hx hb dX4_find_31 (by decide) ?_
        refine lv_iadd hx hb dX4_find_32 ?_
        refine lv_topr (x' := nI (i2 + 1)) (nI_add i2 1) ?_
        refine x_iald hx hb hK hP 6 0 rfl rfl (j := (i2 + 1)) (by omega) (by decide) dX4_find_33 ?_
        refine lv_aload_n hx hb dX4_find_34 rfl (lv_at hl 1 rfl) ?_
        refine lv_iload_n hx hb dX4_find_35 rfl (lv_at hl 0 rfl) ?_
        refine xcV_i (As := [.int (nI i2)]) (rest := [.int (nI (AHa (i2 + 1))), .int (nI i2), .ref e6]) (wc := [(e0, .inr (3, [.ref e1, .ref e2, .ref e3, .ref e4, .ref e5, .ref e6, .int (nI ns), .int (nI ks), .int (nI LL)])), (e1, .inl (cI, 8, .inl (rI NE))), (e2, .inl (cI, 8, .inl (rI AL))), (e3, .inl (cI, 8, .inl (rI PI))), (e4, .inl (cI, 8, .inl (rI BE))), (e5, .inl (cI, 32, .inl (rI CO))), (e6, .inl (cI, 9, .inl (rI AHa)))]) (wr := []) (w3 := fun (u : Unit) => [(e0, .inr (3, [.ref e1, .ref e2, .ref e3, .ref e4, .ref e5, .ref e6, .int (nI ns), .int (nI ks), .int (nI LL)])), (e1, .inl (cI, 8, .inl (rI NE))), (e2, .inl (cI, 8, .inl (rI AL))), (e3, .inl (cI, 8, .inl (rI PI))), (e4, .inl (cI, 8, .inl (rI BE))), (e5, .inl (cI, 32, .inl (rI CO))), (e6, .inl (cI, 9, .inl (rI AHa)))]) ⟨hx, hb, hml, hown, hts⟩ (c_X4_leastCost l D cI cZ cO H.size gR gD gK gV e0 e1 e2 e3 e4 e5 e6 ns ks LL NE AL PI BE CO AHa i2 (by first | assumption | omega | rfl) (by first | assumption | omega | rfl) ((hAL i2 (by omega)).1) (fun v hv => by have := hCO i2 (by omega) v hv; omega)) (cwV 1 hts gX4_find_X4_leastCost rfl rfl rfl (by decide +kernel) ⟨Nat.le_of_ble_eq_true rfl, Nat.le_of_ble_eq_true rfl⟩) (xGdc gR gD gK gV) (xGdc gR gD gK gV) (fun _ _ _ h => h) hG hP hD hK hS hA [0, 1, 2, 3, 4, 5, 6] [] [0, 1, 2, 3, 4, 5, 6] rfl rfl rfl rfl rfl 0 rfl rfl rfl (fun _ => rfl) rfl rfl hl.1 (Nat.le_of_ble_eq_true rfl) dX4_find_36 ⟨Nat.zero_le _, Nat.zero_le _⟩ (fun r u H locs hw hP hD hS => ?_)
        obtain ⟨rfl, hw⟩ := hw
        have hw_36 : True := hw
        have hP : va_P D vwCl [(e0, .inr (3, [.ref e1, .ref e2, .ref e3, .ref e4, .ref e5, .ref e6, .int (nI ns), .int (nI ks), .int (nI LL)])), (e1, .inl (cI, 8, .inl (rI NE))), (e2, .inl (cI, 8, .inl (rI AL))), (e3, .inl (cI, 8, .inl (rI PI))), (e4, .inl (cI, 8, .inl (rI BE))), (e5, .inl (cI, 32, .inl (rI CO))), (e6, .inl (cI, 9, .inl (rI AHa)))] H := hP
        have hD : va_D A [(e0, .inr (3, [.ref e1, .ref e2, .ref e3, .ref e4, .ref e5, .ref e6, .int (nI ns), .int (nI ks), .int (nI LL)])), (e1, .inl (cI, 8, .inl (rI NE))), (e2, .inl (cI, 8, .inl (rI AL))), (e3, .inl (cI, 8, .inl (rI PI))), (e4, .inl (cI, 8, .inl (rI BE))), (e5, .inl (cI, 32, .inl (rI CO))), (e6, .inl (cI, 9, .inl (rI AHa)))] := hD
        refine lv_iadd hx hb dX4_find_39 ?_
        refine lv_topr (x' := nI ((AHa (i2 + 1)) + (lcN (AL i2) (fun v => CO (i2 * 4 + v)) ks))) (nI_add (AHa (i2 + 1)) (lcN (AL i2) (fun v => CO (i2 * 4 + v)) ks)) ?_
        refine x_iastN hx hb hK hP hD hS 6 0 rfl rfl (j := i2) (by omega) (by decide) dX4_find_40 (fun H locs hP hD hS => ?_)
        have hP : va_P D vwCl [(e0, .inr (3, [.ref e1, .ref e2, .ref e3, .ref e4, .ref e5, .ref e6, .int (nI ns), .int (nI ks), .int (nI LL)])), (e1, .inl (cI, 8, .inl (rI NE))), (e2, .inl (cI, 8, .inl (rI AL))), (e3, .inl (cI, 8, .inl (rI PI))), (e4, .inl (cI, 8, .inl (rI BE))), (e5, .inl (cI, 32, .inl (rI CO))), (e6, .inl (cI, 9, .inl (rI (updN AHa i2 ((AHa (i2 + 1)) + (lcN (AL i2) (fun v => CO (i2 * 4 + v)) ks))))))] H := hP
        have hD : va_D A [(e0, .inr (3, [.ref e1, .ref e2, .ref e3, .ref e4, .ref e5, .ref e6, .int (nI ns), .int (nI ks), .int (nI LL)])), (e1, .inl (cI, 8, .inl (rI NE))), (e2, .inl (cI, 8, .inl (rI AL))), (e3, .inl (cI, 8, .inl (rI PI))), (e4, .inl (cI, 8, .inl (rI BE))), (e5, .inl (cI, 32, .inl (rI CO))), (e6, .inl (cI, 9, .inl (rI (updN AHa i2 ((AHa (i2 + 1)) + (lcN (AL i2) (fun v => CO (i2 * 4 + v)) ks))))))] := hD
        refine lv_iinc (v := (nI i2) + (-1)) (lv' := [(1, .int ((nI i2) + (-1))), (0, .ref e0)]) hx hb dX4_find_41 hl (k := 0) rfl (by rfl) (by decide) rfl (fun ls hl => ?_)
        refine lv_goto (tgt := 17) hx hb dX4_find_44 (by decide) ?_
        exact ih_17 (updN AHa i2 ((AHa (i2 + 1)) + (lcN (AL i2) (fun v => CO (i2 * 4 + v)) ks))) i2 ((nI i2) + (-1)) (by omega) (nI_dec3 _) (ah_step (by omega) (hAL i2 (by omega)).2 (fun v hv => (hCO i2 (by omega) v hv).1) ha1) (by omega) _ _ hP hD hS _ (lv_sub hl [0, 1] rfl)
  exact L_17 (Nat.succ (ns)) (updN AH ns 0) ns ((nI ns) - (1 : Int32)) (Nat.le_refl _) (rfl) (fun h h1 h2 => by rw [show h = ns by omega, updN_s]; exact ⟨fun _ _ => Nat.le_refl _, Nat.zero_le _⟩) (Nat.lt_succ_self _) _ _ hP hD hS _ (lv_sub hl [0, 1] rfl)

set_option maxHeartbeats 4000000 in
set_option maxRecDepth 100000 in
theorem c_X4_answer (l : Launch) (D : va_G) (cI cZ cO : ClassId) (sz : Nat) (gR : Nat) (gD : Nat) (gK : Nat → Nat) (gV : Nat → Nat) (e0 : Nat) (e1 : Nat) (e2 : Nat) (e3 : Nat) (e4 : Nat) (e5 : Nat) (e6 : Nat) (ns : Nat) (ks : Nat) (LL : Nat) (NE : Nat → Nat) (AL : Nat → Nat) (PI : Nat → Nat) (BE : Nat → Nat) (CO : Nat → Nat) (AH : Nat → Nat) (g : Int32) (Aw : Nat → Nat → Bool) (Lw : Nat → Nat → Bool) (cf : Nat → Nat → Nat) (hns : ns ≤ 8) (hks : ks ≤ 4) (hAL : ∀ j, j < ns → AL j < 16 ∧ ∀ v, v < ks → (AL j).testBit v = Aw j v) (hNE : ∀ j, j < ns → NE j < 256 ∧ ∀ g, g < j → (NE j).testBit g = Lw j g) (hCO : ∀ j, j < ns → ∀ v, v < ks → CO (j * 4 + v) = cf j v ∧ cf j v ≤ 1000) : xMi l yX4_answer wsX4_answer (11) (271) D (TY cI cZ cO) (xGc gR gD gK gV) [.ref e0, .int g] [(e0, .inr (3, [.ref e1, .ref e2, .ref e3, .ref e4, .ref e5, .ref e6, .int (nI ns), .int (nI ks), .int (nI LL)])), (e1, .inl (cI, 8, .inl (rI NE))), (e2, .inl (cI, 8, .inl (rI AL))), (e3, .inl (cI, 8, .inl (rI PI))), (e4, .inl (cI, 8, .inl (rI BE))), (e5, .inl (cI, 32, .inl (rI CO))), (e6, .inl (cI, 9, .inl (rI AH)))] sz (fun (rv_ : Int32) (u : (Nat → Nat) × (Nat → Nat) × (Nat → Nat) × Nat × (Nat → Nat)) => rv_ = (ansK (u.2.2.2.1) (u.2.2.2.2) ns g) ∧ (((u.2.2.2.1), (u.2.2.2.2)) = enumF ns ks Aw (stK Lw cf ns) ns z0 (1000000, BE) ∧ (∀ j, j < ns → (u.2.1) j = (u.2.2.2.2) j) ∧ (u.2.2.2.1) ≤ 1000000)) (fun (u : (Nat → Nat) × (Nat → Nat) × (Nat → Nat) × Nat × (Nat → Nat)) => [(e0, .inr (3, [.ref e1, .ref e2, .ref e3, .ref e4, .ref e5, .ref e6, .int (nI ns), .int (nI ks), .int (nI (u.2.2.2.1))])), (e1, .inl (cI, 8, .inl (rI NE))), (e2, .inl (cI, 8, .inl (rI AL))), (e3, .inl (cI, 8, .inl (rI (u.1)))), (e4, .inl (cI, 8, .inl (rI (u.2.1)))), (e5, .inl (cI, 32, .inl (rI CO))), (e6, .inl (cI, 9, .inl (rI (u.2.2.1))))]) := by
  refine xMi.of (cc := cX4_answer) (maxL := 2) (by decide +kernel) rfl (Nat.le_of_ble_eq_true rfl) ?_
  intro p e s m below meth c A Q H hx hb hml hown hts hA hP hD hK hS hG hret ls hl
  have hown : s.vm.findClass RX4 = some m.cls := hown
  have hP : va_P D vwCl [(e0, .inr (3, [.ref e1, .ref e2, .ref e3, .ref e4, .ref e5, .ref e6, .int (nI ns), .int (nI ks), .int (nI LL)])), (e1, .inl (cI, 8, .inl (rI NE))), (e2, .inl (cI, 8, .inl (rI AL))), (e3, .inl (cI, 8, .inl (rI PI))), (e4, .inl (cI, 8, .inl (rI BE))), (e5, .inl (cI, 32, .inl (rI CO))), (e6, .inl (cI, 9, .inl (rI AH)))] H := hP
  have hD : va_D A [(e0, .inr (3, [.ref e1, .ref e2, .ref e3, .ref e4, .ref e5, .ref e6, .int (nI ns), .int (nI ks), .int (nI LL)])), (e1, .inl (cI, 8, .inl (rI NE))), (e2, .inl (cI, 8, .inl (rI AL))), (e3, .inl (cI, 8, .inl (rI PI))), (e4, .inl (cI, 8, .inl (rI BE))), (e5, .inl (cI, 32, .inl (rI CO))), (e6, .inl (cI, 9, .inl (rI AH)))] := hD
  have hl : lv_has ls 2 [(0, .ref e0), (1, .int g)] := hl
  have w_0 := hts (.fieldLink RX4 62 "UnlikeRoofs$Search" "least" "I") (List.mem_of_getElem? (i := 3) (by rfl))
  have w_1 := hts (.fieldLink RX4 36 "UnlikeRoofs$Search" "houses" "I") (List.mem_of_getElem? (i := 1) (by rfl))
  have w_2 := hts (.fieldLink RX4 21 "UnlikeRoofs$Search" "best" "[I") (List.mem_of_getElem? (i := 2) (by rfl))
  have hin_X4 : ∀ w ∈ wsX40, w ∈ wsX4_answer := fun _ h => List.mem_cons_of_mem _ (List.mem_append_right _ h)
  have _h0 : True := trivial
  refine lv_aload_n hx hb dX4_answer_0 rfl (lv_at hl 0 rfl) ?_
  refine xcV_i (As := []) (rest := []) (wc := [(e0, .inr (3, [.ref e1, .ref e2, .ref e3, .ref e4, .ref e5, .ref e6, .int (nI ns), .int (nI ks), .int (nI LL)])), (e1, .inl (cI, 8, .inl (rI NE))), (e2, .inl (cI, 8, .inl (rI AL))), (e3, .inl (cI, 8, .inl (rI PI))), (e4, .inl (cI, 8, .inl (rI BE))), (e5, .inl (cI, 32, .inl (rI CO))), (e6, .inl (cI, 9, .inl (rI AH)))]) (wr := []) (w3 := fun (u : (Nat → Nat) × (Nat → Nat) × (Nat → Nat) × Nat × (Nat → Nat)) => [(e0, .inr (3, [.ref e1, .ref e2, .ref e3, .ref e4, .ref e5, .ref e6, .int (nI ns), .int (nI ks), .int (nI (u.2.2.2.1))])), (e1, .inl (cI, 8, .inl (rI NE))), (e2, .inl (cI, 8, .inl (rI AL))), (e3, .inl (cI, 8, .inl (rI (u.1)))), (e4, .inl (cI, 8, .inl (rI (u.2.1)))), (e5, .inl (cI, 32, .inl (rI CO))), (e6, .inl (cI, 9, .inl (rI (u.2.2.1))))]) ⟨hx, hb, hml, hown, hts⟩ (c_X4_find l D cI cZ cO H.size gR gD gK gV e0 e1 e2 e3 e4 e5 e6 ns ks LL NE AL PI BE CO AH Aw Lw cf (by first | assumption | omega | rfl) (by first | assumption | omega | rfl) (hAL) (hNE) (hCO)) (cwV 0 hts gX4_answer_X4_find rfl rfl rfl (by decide +kernel) ⟨Nat.le_of_ble_eq_true rfl, Nat.le_of_ble_eq_true rfl⟩) (xGdc gR gD gK gV) (xGdc gR gD gK gV) (fun _ _ _ h => h) hG hP hD hK hS hA [0, 1, 2, 3, 4, 5, 6] [] [0, 1, 2, 3, 4, 5, 6] rfl rfl rfl rfl rfl 0 rfl rfl rfl (fun _ => rfl) rfl rfl hl.1 (Nat.le_of_ble_eq_true rfl) dX4_answer_1 ⟨Nat.zero_le _, Nat.zero_le _⟩ (fun r u H locs hw hP hD hS => ?_)
  obtain ⟨z_1, z_2, z_3, z_4, z_5⟩ := u
  obtain ⟨rfl, hw⟩ := hw
  have hw_1 : (z_4, z_5) = enumF ns ks Aw (stK Lw cf ns) ns z0 (1000000, BE) ∧ (∀ j, j < ns → z_2 j = z_5 j) ∧ z_4 ≤ 1000000 := hw
  have hP : va_P D vwCl [(e0, .inr (3, [.ref e1, .ref e2, .ref e3, .ref e4, .ref e5, .ref e6, .int (nI ns), .int (nI ks), .int (nI z_4)])), (e1, .inl (cI, 8, .inl (rI NE))), (e2, .inl (cI, 8, .inl (rI AL))), (e3, .inl (cI, 8, .inl (rI z_1))), (e4, .inl (cI, 8, .inl (rI z_2))), (e5, .inl (cI, 32, .inl (rI CO))), (e6, .inl (cI, 9, .inl (rI z_3)))] H := hP
  have hD : va_D A [(e0, .inr (3, [.ref e1, .ref e2, .ref e3, .ref e4, .ref e5, .ref e6, .int (nI ns), .int (nI ks), .int (nI z_4)])), (e1, .inl (cI, 8, .inl (rI NE))), (e2, .inl (cI, 8, .inl (rI AL))), (e3, .inl (cI, 8, .inl (rI z_1))), (e4, .inl (cI, 8, .inl (rI z_2))), (e5, .inl (cI, 32, .inl (rI CO))), (e6, .inl (cI, 9, .inl (rI z_3)))] := hD
  refine lv_if_ne (tgt := 10) hx hb dX4_answer_4 (by decide) (fun c_4 => ?_) (fun c_4 => ?_)
  ·
    have b_4 : (decide (z_4 < 1000000)) = true := bb_neq0 c_4
    have b_4 := of_decide_eq_true b_4
    refine lv_iload_n hx hb dX4_answer_10 rfl (lv_at hl 1 rfl) ?_
    refine lv_if_lt (tgt := 31) hx hb dX4_answer_11 (by decide) (fun c_11 => ?_) (fun c_11 => ?_)
    ·
      refine lv_aload_n hx hb dX4_answer_31 rfl (lv_at hl 0 rfl) ?_
      refine va_get (D := D) (ci := 3) (v := .int (nI z_4)) (C := RX4) (T := TX4) (N := 9) hx hb hts hin_X4 hown hK hP 0 rfl rfl 8 (by decide) w_0 (fun _ h9 => h9) rfl dX4_answer_32 ?_
      exact hret _ (z_1, z_2, z_3, z_4, z_5) _ _ _ _ (rfl) (⟨by rw [ansK, if_pos b_4, if_neg (fun q => absurd (of_decide_eq_true q).1 (Int32.not_le.2 c_11))], hw_1⟩) hP hD hS dX4_answer_35
    ·
      refine lv_iload_n hx hb dX4_answer_14 rfl (lv_at hl 1 rfl) ?_
      refine lv_aload_n hx hb dX4_answer_15 rfl (lv_at hl 0 rfl) ?_
      refine va_get (D := D) (ci := 3) (v := .int (nI ns)) (C := RX4) (T := TX4) (N := 9) hx hb hts hin_X4 hown hK hP 0 rfl rfl 6 (by decide) w_1 (fun _ h9 => h9) rfl dX4_answer_16 ?_
      refine lv_icmp_ge (tgt := 31) hx hb dX4_answer_19 (by decide) (fun c_19 => ?_) (fun c_19 => ?_)
      ·
        refine lv_aload_n hx hb dX4_answer_31 rfl (lv_at hl 0 rfl) ?_
        refine va_get (D := D) (ci := 3) (v := .int (nI z_4)) (C := RX4) (T := TX4) (N := 9) hx hb hts hin_X4 hown hK hP 0 rfl rfl 8 (by decide) w_0 (fun _ h9 => h9) rfl dX4_answer_32 ?_
        exact hret _ (z_1, z_2, z_3, z_4, z_5) _ _ _ _ (rfl) (⟨by first | rw [ansK, if_pos b_4, if_neg (fun q => absurd (of_decide_eq_true q).2 (Int32.not_lt.2 c_19))] | rw [ansK, if_pos b_4, if_pos (decide_eq_true ⟨Int32.not_lt.1 c_11, Int32.not_le.1 c_19⟩), eg1, tnI (show g1 < 2147483648 by omega)], hw_1⟩) hP hD hS dX4_answer_35
      ·
        refine lv_aload_n hx hb dX4_answer_22 rfl (lv_at hl 0 rfl) ?_
        refine va_get (D := D) (ci := 3) (v := .ref e4) (C := RX4) (T := TX4) (N := 9) hx hb hts hin_X4 hown hK hP 0 rfl rfl 3 (by decide) w_2 (fun _ h9 => h9) rfl dX4_answer_23 ?_
        refine lv_iload_n hx hb dX4_answer_26 rfl (lv_at hl 1 rfl) ?_
        obtain ⟨g1, hg1, eg1⟩ := inb_nI (by omega) (decide_eq_true ⟨Int32.not_lt.1 c_11, Int32.not_le.1 c_19⟩)
        refine lv_topr eg1 ?_
        refine x_iald hx hb hK hP 4 0 rfl rfl (j := g1) (by omega) (by decide) dX4_answer_27 ?_
        refine lv_topr (x' := nI (z_5 g1)) (congrArg nI (hw_1.2.1 g1 (by omega))) ?_
        refine lv_goto (tgt := 35) hx hb dX4_answer_28 (by decide) ?_
        exact hret _ (z_1, z_2, z_3, z_4, z_5) _ _ _ _ (rfl) (⟨by first | rw [ansK, if_pos b_4, if_neg (fun q => absurd (of_decide_eq_true q).2 (Int32.not_lt.2 c_19))] | rw [ansK, if_pos b_4, if_pos (decide_eq_true ⟨Int32.not_lt.1 c_11, Int32.not_le.1 c_19⟩), eg1, tnI (show g1 < 2147483648 by omega)], hw_1⟩) hP hD hS dX4_answer_35
  ·
    have b_4 : (decide (z_4 < 1000000)) = false := bb_eq0 c_4
    have b_4 := of_decide_eq_false b_4
    refine lv_bipush (v := (-9 : Int32)) hx hb dX4_answer_7 (by decide) ?_
    exact hret _ (z_1, z_2, z_3, z_4, z_5) _ _ _ _ (rfl) (⟨(if_neg b_4).symm, hw_1⟩) hP hD hS dX4_answer_9
