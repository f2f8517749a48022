set_option maxHeartbeats 4000000 in
set_option maxRecDepth 100000 in
theorem c_X5_add (l : Launch) (D : va_G) (cI cZ cO : ClassId) (sz : Nat) (s0 : Nat) (s1 : Nat) (s2 : Nat) (sn : Nat) (sh : Nat → Int32) (sm : Nat → Int32) (h : Int32) (mi : Int32) (hsn : sn ≤ 8) : xMi l yX5_add wsX5_add (0) (0) D (TY cI cZ cO) xG0 [.ref s0, .int h, .int mi] [(s0, .inr (4, [.ref s1, .ref s2, .int (nI sn)])), (s1, .inl (cI, 8, .inl sh)), (s2, .inl (cI, 8, .inl sm))] sz (fun (rv_ : Int32) (u : Nat × (Nat → Int32) × (Nat → Int32)) => rv_ = (bb (decide (sn < 8))) ∧ (((u.1), (u.2.1), (u.2.2)) = seenN sn sh sm h mi)) (fun (u : Nat × (Nat → Int32) × (Nat → Int32)) => [(s0, .inr (4, [.ref s1, .ref s2, .int (nI (u.1))])), (s1, .inl (cI, 8, .inl (u.2.1))), (s2, .inl (cI, 8, .inl (u.2.2)))]) := by
  refine xMi.of (cc := cX5_add) (maxL := 3) (by decide +kernel) rfl (Nat.le_of_ble_eq_true rfl) ?_
  intro p e s m below meth c A Q H hx hb hml hown hts hA hP hD hK hS hG hret ls hl
  have hown : s.vm.findClass RX5 = some m.cls := hown
  have hP : va_P D vwCl [(s0, .inr (4, [.ref s1, .ref s2, .int (nI sn)])), (s1, .inl (cI, 8, .inl sh)), (s2, .inl (cI, 8, .inl sm))] H := hP
  have hD : va_D A [(s0, .inr (4, [.ref s1, .ref s2, .int (nI sn)])), (s1, .inl (cI, 8, .inl sh)), (s2, .inl (cI, 8, .inl sm))] := hD
  have hl : lv_has ls 3 [(0, .ref s0), (1, .int h), (2, .int mi)] := hl
  have w_0 := hts (.fieldLink RX5 18 "UnlikeRoofs$Seen" "size" "I") (List.mem_of_getElem? (i := 1) (by rfl))
  have w_1 := hts (.fieldLink RX5 9 "UnlikeRoofs$Seen" "houses" "[I") (List.mem_of_getElem? (i := 2) (by rfl))
  have w_2 := hts (.fieldLink RX5 15 "UnlikeRoofs$Seen" "minutes" "[I") (List.mem_of_getElem? (i := 3) (by rfl))
  have hin_X5 : ∀ w ∈ wsX50, w ∈ wsX5_add := fun _ h => List.mem_cons_of_mem _ (List.mem_append_right _ h)
  have _h0 : True := trivial
  refine lv_aload_n hx hb dX5_add_0 rfl (lv_at hl 0 rfl) ?_
  refine va_get (D := D) (ci := 4) (v := .int (nI sn)) (C := RX5) (T := TX5) (N := 3) hx hb hts hin_X5 hown hK hP 0 rfl rfl 2 (by decide) w_0 (fun _ h9 => h9) rfl dX5_add_1 ?_
  refine lv_bipush (v := (8 : Int32)) hx hb dX5_add_4 (by decide) ?_
  refine lv_icmp_lt (tgt := 11) hx hb dX5_add_6 (by decide) (fun c_6 => ?_) (fun c_6 => ?_)
  ·
    have n_6 : sn < 8 := (nI_ltI (show sn < 2147483648 by omega) (show 8 < 2147483648 by omega)).1 c_6
    refine lv_aload_n hx hb dX5_add_11 rfl (lv_at hl 0 rfl) ?_
    refine va_get (D := D) (ci := 4) (v := .ref s1) (C := RX5) (T := TX5) (N := 3) hx hb hts hin_X5 hown hK hP 0 rfl rfl 0 (by decide) w_1 (fun _ h9 => h9) rfl dX5_add_12 ?_
    refine lv_aload_n hx hb dX5_add_15 rfl (lv_at hl 0 rfl) ?_
    refine va_get (D := D) (ci := 4) (v := .int (nI sn)) (C := RX5) (T := TX5) (N := 3) hx hb hts hin_X5 hown hK hP 0 rfl rfl 2 (by decide) w_0 (fun _ h9 => h9) rfl dX5_add_16 ?_
    refine lv_iload_n hx hb dX5_add_19 rfl (lv_at hl 1 rfl) ?_
    refine x_iast hx hb hK hP hD hS 1 0 rfl rfl (j := sn) (by omega) (by decide) dX5_add_20 (fun H locs hP hD hS => ?_)
    have hP : va_P D vwCl [(s0, .inr (4, [.ref s1, .ref s2, .int (nI sn)])), (s1, .inl (cI, 8, .inl (upd sh sn h))), (s2, .inl (cI, 8, .inl sm))] H := hP
    have hD : va_D A [(s0, .inr (4, [.ref s1, .ref s2, .int (nI sn)])), (s1, .inl (cI, 8, .inl (upd sh sn h))), (s2, .inl (cI, 8, .inl sm))] := hD
    refine lv_aload_n hx hb dX5_add_21 rfl (lv_at hl 0 rfl) ?_
    refine va_get (D := D) (ci := 4) (v := .ref s2) (C := RX5) (T := TX5) (N := 3) hx hb hts hin_X5 hown hK hP 0 rfl rfl 1 (by decide) w_2 (fun _ h9 => h9) rfl dX5_add_22 ?_
    refine lv_aload_n hx hb dX5_add_25 rfl (lv_at hl 0 rfl) ?_
    refine va_get (D := D) (ci := 4) (v := .int (nI sn)) (C := RX5) (T := TX5) (N := 3) hx hb hts hin_X5 hown hK hP 0 rfl rfl 2 (by decide) w_0 (fun _ h9 => h9) rfl dX5_add_26 ?_
    refine lv_iload_n hx hb dX5_add_29 rfl (lv_at hl 2 rfl) ?_
    refine x_iast hx hb hK hP hD hS 2 0 rfl rfl (j := sn) (by omega) (by decide) dX5_add_30 (fun H locs hP hD hS => ?_)
    have hP : va_P D vwCl [(s0, .inr (4, [.ref s1, .ref s2, .int (nI sn)])), (s1, .inl (cI, 8, .inl (upd sh sn h))), (s2, .inl (cI, 8, .inl (upd sm sn mi)))] H := hP
    have hD : va_D A [(s0, .inr (4, [.ref s1, .ref s2, .int (nI sn)])), (s1, .inl (cI, 8, .inl (upd sh sn h))), (s2, .inl (cI, 8, .inl (upd sm sn mi)))] := hD
    refine lv_aload_n hx hb dX5_add_31 rfl (lv_at hl 0 rfl) ?_
    refine lv_dup hx hb dX5_add_32 rfl ?_
    refine va_get (D := D) (ci := 4) (v := .int (nI sn)) (C := RX5) (T := TX5) (N := 3) hx hb hts hin_X5 hown hK hP 0 rfl rfl 2 (by decide) w_0 (fun _ h9 => h9) rfl dX5_add_33 ?_
    refine lv_iconst (v := (1 : Int32)) hx hb dX5_add_36 (by decide) ?_
    refine lv_iadd hx hb dX5_add_37 ?_
    refine lv_topr (x' := nI (sn + 1)) (nI_add sn 1) ?_
    refine va_put (D := D) (ci := 4) (v := .int (nI (sn + 1))) (ty := .int) (C := RX5) (T := TX5) (N := 3) hx hb hts hin_X5 tyX5 tyX5_ok nmX5 hown hK hP hD hS 0 rfl rfl 2 (by decide) w_0 (fun _ h9 => h9) rfl (by decide +kernel) rfl rfl (Nat.le_of_ble_eq_true rfl) dX5_add_38 (fun H locs hP hD hS => ?_)
    have hP : va_P D vwCl [(s0, .inr (4, [.ref s1, .ref s2, .int (nI (sn + 1))])), (s1, .inl (cI, 8, .inl (upd sh sn h))), (s2, .inl (cI, 8, .inl (upd sm sn mi)))] H := hP
    have hD : va_D A [(s0, .inr (4, [.ref s1, .ref s2, .int (nI (sn + 1))])), (s1, .inl (cI, 8, .inl (upd sh sn h))), (s2, .inl (cI, 8, .inl (upd sm sn mi)))] := hD
    refine lv_iconst (v := (1 : Int32)) hx hb dX5_add_41 (by decide) ?_
    exact hret _ (sn + 1, (upd sh sn h), (upd sm sn mi)) _ _ _ _ (rfl) (⟨by first | exact bbT (by omega) | exact bbF (by omega), by first | exact (if_pos (by omega)).symm | exact (if_neg (by omega)).symm⟩) hP hD hS dX5_add_42
  ·
    have n_6 : 8 ≤ sn := Nat.le_of_not_lt (fun q => c_6 ((nI_ltI (show sn < 2147483648 by omega) (show 8 < 2147483648 by omega)).2 q))
    refine lv_iconst (v := (0 : Int32)) hx hb dX5_add_9 (by decide) ?_
    exact hret _ (sn, sh, sm) _ _ _ _ (rfl) (⟨by first | exact bbT (by omega) | exact bbF (by omega), by first | exact (if_pos (by omega)).symm | exact (if_neg (by omega)).symm⟩) hP hD hS dX5_add_10

set_option maxHeartbeats 4000000 in
set_option maxRecDepth 100000 in
theorem c_X5_empty (l : Launch) (D : va_G) (cI cZ cO : ClassId) (sz : Nat) (s0 : Nat) (s1 : Nat) (s2 : Nat) (sn : Nat) (sh : Nat → Int32) (sm : Nat → Int32)  : xMi l yX5_empty wsX5_empty (0) (0) D (TY cI cZ cO) xG0 [.ref s0] [(s0, .inr (4, [.ref s1, .ref s2, .int (nI sn)])), (s1, .inl (cI, 8, .inl sh)), (s2, .inl (cI, 8, .inl sm))] sz (fun (rv_ : Int32) (u : Unit) => rv_ = (nI sn) ∧ (True)) (fun (u : Unit) => [(s0, .inr (4, [.ref s1, .ref s2, .int (nI 0)])), (s1, .inl (cI, 8, .inl sh)), (s2, .inl (cI, 8, .inl sm))]) := by
  refine xMi.of (cc := cX5_empty) (maxL := 2) (by decide +kernel) rfl (Nat.le_of_ble_eq_true rfl) ?_
  intro p e s m below meth c A Q H hx hb hml hown hts hA hP hD hK hS hG hret ls hl
  have hown : s.vm.findClass RX5 = some m.cls := hown
  have hP : va_P D vwCl [(s0, .inr (4, [.ref s1, .ref s2, .int (nI sn)])), (s1, .inl (cI, 8, .inl sh)), (s2, .inl (cI, 8, .inl sm))] H := hP
  have hD : va_D A [(s0, .inr (4, [.ref s1, .ref s2, .int (nI sn)])), (s1, .inl (cI, 8, .inl sh)), (s2, .inl (cI, 8, .inl sm))] := hD
  have hl : lv_has ls 2 [(0, .ref s0)] := hl
  have w_0 := hts (.fieldLink RX5 18 "UnlikeRoofs$Seen" "size" "I") (List.mem_of_getElem? (i := 1) (by rfl))
  have hin_X5 : ∀ w ∈ wsX50, w ∈ wsX5_empty := fun _ h => List.mem_cons_of_mem _ (List.mem_append_right _ h)
  have _h0 : True := trivial
  refine lv_aload_n hx hb dX5_empty_0 rfl (lv_at hl 0 rfl) ?_
  refine va_get (D := D) (ci := 4) (v := .int (nI sn)) (C := RX5) (T := TX5) (N := 3) hx hb hts hin_X5 hown hK hP 0 rfl rfl 2 (by decide) w_0 (fun _ h9 => h9) rfl dX5_empty_1 ?_
  refine lv_istore_n (lv' := [(1, .int (nI sn)), (0, .ref s0)]) hx hb dX5_empty_4 rfl hl (by decide) rfl (fun ls hl => ?_)
  refine lv_aload_n hx hb dX5_empty_5 rfl (lv_at hl 1 rfl) ?_
  refine lv_iconst (v := (0 : Int32)) hx hb dX5_empty_6 (by decide) ?_
  refine va_put (D := D) (ci := 4) (v := .int (0 : Int32)) (ty := .int) (C := RX5) (T := TX5) (N := 3) hx hb hts hin_X5 tyX5 tyX5_ok nmX5 hown hK hP hD hS 0 rfl rfl 2 (by decide) w_0 (fun _ h9 => h9) rfl (by decide +kernel) rfl rfl (Nat.le_of_ble_eq_true rfl) dX5_empty_7 (fun H locs hP hD hS => ?_)
  have hP : va_P D vwCl [(s0, .inr (4, [.ref s1, .ref s2, .int (0 : Int32)])), (s1, .inl (cI, 8, .inl sh)), (s2, .inl (cI, 8, .inl sm))] H := hP
  have hD : va_D A [(s0, .inr (4, [.ref s1, .ref s2, .int (0 : Int32)])), (s1, .inl (cI, 8, .inl sh)), (s2, .inl (cI, 8, .inl sm))] := hD
  refine lv_iload_n hx hb dX5_empty_10 rfl (lv_at hl 0 rfl) ?_
  exact hret _ () _ _ _ _ (rfl) (⟨rfl, trivial⟩) hP hD hS dX5_empty_11

set_option maxHeartbeats 4000000 in
set_option maxRecDepth 100000 in
theorem c_X5_copyOf (l : Launch) (D : va_G) (cI cZ cO : ClassId) (sz : Nat) (d0 : Nat) (d1 : Nat) (d2 : Nat) (dn : Nat) (dh : Nat → Int32) (dm : Nat → Int32) (s0 : Nat) (s1 : Nat) (s2 : Nat) (sn : Nat) (sh : Nat → Int32) (sm : Nat → Int32)  : xMv l yX5_copyOf wsX5_copyOf (1) (44) D (TY cI cZ cO) xG0 [.ref d0, .ref s0] [(d0, .inr (4, [.ref d1, .ref d2, .int (nI dn)])), (d1, .inl (cI, 8, .inl dh)), (d2, .inl (cI, 8, .inl dm)), (s0, .inr (4, [.ref s1, .ref s2, .int (nI sn)])), (s1, .inl (cI, 8, .inl sh)), (s2, .inl (cI, 8, .inl sm))] sz (fun (u : Unit) => (True)) (fun (u : Unit) => [(d0, .inr (4, [.ref d1, .ref d2, .int (nI sn)])), (d1, .inl (cI, 8, .inl sh)), (d2, .inl (cI, 8, .inl sm)), (s0, .inr (4, [.ref s1, .ref s2, .int (nI sn)])), (s1, .inl (cI, 8, .inl sh)), (s2, .inl (cI, 8, .inl sm))]) := by
  refine xMv.of (cc := cX5_copyOf) (maxL := 2) (by decide +kernel) rfl (Nat.le_of_ble_eq_true rfl) ?_
  intro p e s m below meth c A Q H hx hb hml hown hts hA hP hD hK hS hG hret ls hl
  have hown : s.vm.findClass RX5 = some m.cls := hown
  have hP : va_P D vwCl [(d0, .inr (4, [.ref d1, .ref d2, .int (nI dn)])), (d1, .inl (cI, 8, .inl dh)), (d2, .inl (cI, 8, .inl dm)), (s0, .inr (4, [.ref s1, .ref s2, .int (nI sn)])), (s1, .inl (cI, 8, .inl sh)), (s2, .inl (cI, 8, .inl sm))] H := hP
  have hD : va_D A [(d0, .inr (4, [.ref d1, .ref d2, .int (nI dn)])), (d1, .inl (cI, 8, .inl dh)), (d2, .inl (cI, 8, .inl dm)), (s0, .inr (4, [.ref s1, .ref s2, .int (nI sn)])), (s1, .inl (cI, 8, .inl sh)), (s2, .inl (cI, 8, .inl sm))] := hD
  have hl : lv_has ls 2 [(0, .ref d0), (1, .ref s0)] := hl
  have w_0 := hts (.fieldLink RX5 18 "UnlikeRoofs$Seen" "size" "I") (List.mem_of_getElem? (i := 1) (by rfl))
  have w_1 := hts (.fieldLink RX5 9 "UnlikeRoofs$Seen" "houses" "[I") (List.mem_of_getElem? (i := 2) (by rfl))
  have w_2 := hts (.methodLink RX5 22 arraycopyName) (List.mem_of_getElem? (i := 3) (by rfl))
  have w_3 := hts (.native arraycopyName) (List.mem_of_getElem? (i := 4) (by rfl))
  have w_4 := hts (.static arraycopyName) (List.mem_of_getElem? (i := 5) (by rfl))
  have w_5 := hts (.initialized "java/lang/System") (List.mem_of_getElem? (i := 6) (by rfl))
  have w_6 := hts (.fieldLink RX5 15 "UnlikeRoofs$Seen" "minutes" "[I") (List.mem_of_getElem? (i := 7) (by rfl))
  have hin_X5 : ∀ w ∈ wsX50, w ∈ wsX5_copyOf := fun _ h => List.mem_cons_of_mem _ (List.mem_append_right _ h)
  have _h0 : True := trivial
  refine lv_aload_n hx hb dX5_copyOf_0 rfl (lv_at hl 0 rfl) ?_
  refine lv_aload_n hx hb dX5_copyOf_1 rfl (lv_at hl 1 rfl) ?_
  refine va_get (D := D) (ci := 4) (v := .int (nI sn)) (C := RX5) (T := TX5) (N := 3) hx hb hts hin_X5 hown hK hP 3 rfl rfl 2 (by decide) w_0 (fun _ h9 => h9) rfl dX5_copyOf_2 ?_
  refine va_put (D := D) (ci := 4) (v := .int (nI sn)) (ty := .int) (C := RX5) (T := TX5) (N := 3) hx hb hts hin_X5 tyX5 tyX5_ok nmX5 hown hK hP hD hS 0 rfl rfl 2 (by decide) w_0 (fun _ h9 => h9) rfl (by decide +kernel) rfl rfl (Nat.le_of_ble_eq_true rfl) dX5_copyOf_5 (fun H locs hP hD hS => ?_)
  have hP : va_P D vwCl [(d0, .inr (4, [.ref d1, .ref d2, .int (nI sn)])), (d1, .inl (cI, 8, .inl dh)), (d2, .inl (cI, 8, .inl dm)), (s0, .inr (4, [.ref s1, .ref s2, .int (nI sn)])), (s1, .inl (cI, 8, .inl sh)), (s2, .inl (cI, 8, .inl sm))] H := hP
  have hD : va_D A [(d0, .inr (4, [.ref d1, .ref d2, .int (nI sn)])), (d1, .inl (cI, 8, .inl dh)), (d2, .inl (cI, 8, .inl dm)), (s0, .inr (4, [.ref s1, .ref s2, .int (nI sn)])), (s1, .inl (cI, 8, .inl sh)), (s2, .inl (cI, 8, .inl sm))] := hD
  refine lv_aload_n hx hb dX5_copyOf_8 rfl (lv_at hl 1 rfl) ?_
  refine va_get (D := D) (ci := 4) (v := .ref s1) (C := RX5) (T := TX5) (N := 3) hx hb hts hin_X5 hown hK hP 3 rfl rfl 0 (by decide) w_1 (fun _ h9 => h9) rfl dX5_copyOf_9 ?_
  refine lv_iconst (v := (0 : Int32)) hx hb dX5_copyOf_12 (by decide) ?_
  refine lv_aload_n hx hb dX5_copyOf_13 rfl (lv_at hl 0 rfl) ?_
  refine va_get (D := D) (ci := 4) (v := .ref d1) (C := RX5) (T := TX5) (N := 3) hx hb hts hin_X5 hown hK hP 0 rfl rfl 0 (by decide) w_1 (fun _ h9 => h9) rfl dX5_copyOf_14 ?_
  refine lv_iconst (v := (0 : Int32)) hx hb dX5_copyOf_17 (by decide) ?_
  refine lv_bipush (v := (8 : Int32)) hx hb dX5_copyOf_18 (by decide) ?_
  refine x_copy8 hx hb (hml.trans hl.1.symm) hown w_2 w_3 w_4 w_5 hK hP hD hS 4 1 0 rfl rfl rfl (Nat.le_of_ble_eq_true rfl) (Nat.le_of_ble_eq_true rfl) dX5_copyOf_20 (fun H locs hP hD hS => ?_)
  have hP : va_P D vwCl [(d0, .inr (4, [.ref d1, .ref d2, .int (nI sn)])), (d1, .inl (cI, 8, .inl sh)), (d2, .inl (cI, 8, .inl dm)), (s0, .inr (4, [.ref s1, .ref s2, .int (nI sn)])), (s1, .inl (cI, 8, .inl sh)), (s2, .inl (cI, 8, .inl sm))] H := hP
  have hD : va_D A [(d0, .inr (4, [.ref d1, .ref d2, .int (nI sn)])), (d1, .inl (cI, 8, .inl sh)), (d2, .inl (cI, 8, .inl dm)), (s0, .inr (4, [.ref s1, .ref s2, .int (nI sn)])), (s1, .inl (cI, 8, .inl sh)), (s2, .inl (cI, 8, .inl sm))] := hD
  refine lv_aload_n hx hb dX5_copyOf_23 rfl (lv_at hl 1 rfl) ?_
  refine va_get (D := D) (ci := 4) (v := .ref s2) (C := RX5) (T := TX5) (N := 3) hx hb hts hin_X5 hown hK hP 3 rfl rfl 1 (by decide) w_6 (fun _ h9 => h9) rfl dX5_copyOf_24 ?_
  refine lv_iconst (v := (0 : Int32)) hx hb dX5_copyOf_27 (by decide) ?_
  refine lv_aload_n hx hb dX5_copyOf_28 rfl (lv_at hl 0 rfl) ?_
  refine va_get (D := D) (ci := 4) (v := .ref d2) (C := RX5) (T := TX5) (N := 3) hx hb hts hin_X5 hown hK hP 0 rfl rfl 1 (by decide) w_6 (fun _ h9 => h9) rfl dX5_copyOf_29 ?_
  refine lv_iconst (v := (0 : Int32)) hx hb dX5_copyOf_32 (by decide) ?_
  refine lv_bipush (v := (8 : Int32)) hx hb dX5_copyOf_33 (by decide) ?_
  refine x_copy8 hx hb (hml.trans hl.1.symm) hown w_2 w_3 w_4 w_5 hK hP hD hS 5 2 0 rfl rfl rfl (Nat.le_of_ble_eq_true rfl) (Nat.le_of_ble_eq_true rfl) dX5_copyOf_35 (fun H locs hP hD hS => ?_)
  have hP : va_P D vwCl [(d0, .inr (4, [.ref d1, .ref d2, .int (nI sn)])), (d1, .inl (cI, 8, .inl sh)), (d2, .inl (cI, 8, .inl sm)), (s0, .inr (4, [.ref s1, .ref s2, .int (nI sn)])), (s1, .inl (cI, 8, .inl sh)), (s2, .inl (cI, 8, .inl sm))] H := hP
  have hD : va_D A [(d0, .inr (4, [.ref d1, .ref d2, .int (nI sn)])), (d1, .inl (cI, 8, .inl sh)), (d2, .inl (cI, 8, .inl sm)), (s0, .inr (4, [.ref s1, .ref s2, .int (nI sn)])), (s1, .inl (cI, 8, .inl sh)), (s2, .inl (cI, 8, .inl sm))] := hD
  exact hret () _ _ _ _ (trivial) hP hD hS dX5_copyOf_38

set_option maxHeartbeats 4000000 in
set_option maxRecDepth 100000 in
theorem c_X5_fits (l : Launch) (D : va_G) (cI cZ cO : ClassId) (sz : Nat) (gR : Nat) (gD : Nat) (gK : Nat → Nat) (gV : Nat → Nat) (s0 : Nat) (s1 : Nat) (s2 : Nat) (sn : Nat) (sh : Nat → Int32) (sm : Nat → Int32) (f0 : Nat) (f1 : Nat) (bt : Int32) (lc : Int32) (si : Nat → Int32) (hsn : sn ≤ 8) : xMi l yX5_fits wsX5_fits (0) (0) D (TY cI cZ cO) (xGc gR gD gK gV) [.ref s0, .ref f0] [(s0, .inr (4, [.ref s1, .ref s2, .int (nI sn)])), (s1, .inl (cI, 8, .inl sh)), (s2, .inl (cI, 8, .inl sm)), (f0, .inr (0, [.ref f1, .int bt, .int lc])), (f1, .inl (cI, 8, .inl si))] sz (fun (rv_ : Int32) (u : Unit) => rv_ = (bb (fitB sh sm si sn)) ∧ (True)) (fun (u : Unit) => [(s0, .inr (4, [.ref s1, .ref s2, .int (nI sn)])), (s1, .inl (cI, 8, .inl sh)), (s2, .inl (cI, 8, .inl sm)), (f0, .inr (0, [.ref f1, .int bt, .int lc])), (f1, .inl (cI, 8, .inl si))]) := by
  refine xMi.of (cc := cX5_fits) (maxL := 4) (by decide +kernel) rfl (Nat.le_of_ble_eq_true rfl) ?_
  intro p e s m below meth c A Q H hx hb hml hown hts hA hP hD hK hS hG hret ls hl
  have hown : s.vm.findClass RX5 = some m.cls := hown
  have hP : va_P D vwCl [(s0, .inr (4, [.ref s1, .ref s2, .int (nI sn)])), (s1, .inl (cI, 8, .inl sh)), (s2, .inl (cI, 8, .inl sm)), (f0, .inr (0, [.ref f1, .int bt, .int lc])), (f1, .inl (cI, 8, .inl si))] H := hP
  have hD : va_D A [(s0, .inr (4, [.ref s1, .ref s2, .int (nI sn)])), (s1, .inl (cI, 8, .inl sh)), (s2, .inl (cI, 8, .inl sm)), (f0, .inr (0, [.ref f1, .int bt, .int lc])), (f1, .inl (cI, 8, .inl si))] := hD
  have hl : lv_has ls 4 [(0, .ref s0), (1, .ref f0)] := hl
  have w_0 := hts (.fieldLink RX5 18 "UnlikeRoofs$Seen" "size" "I") (List.mem_of_getElem? (i := 1) (by rfl))
  have w_1 := hts (.fieldLink RX5 9 "UnlikeRoofs$Seen" "houses" "[I") (List.mem_of_getElem? (i := 2) (by rfl))
  have w_2 := hts (.fieldLink RX5 15 "UnlikeRoofs$Seen" "minutes" "[I") (List.mem_of_getElem? (i := 3) (by rfl))
  have wn_0 : (Cond.fieldLinkNest RX5 28 "UnlikeRoofs$Fire" "since" "[I" "UnlikeRoofs").before ([.ref s0, .ref f0] : List Value).toArray s = true := va_Nw.use rfl (hG.1 (.fieldLinkNest RX5 28 "UnlikeRoofs$Fire" "since" "[I" "UnlikeRoofs") (List.mem_of_getElem? (i := 2) (by rfl)))
  have hin_X0 : ∀ w ∈ wsX00, w ∈ wsX5_fits := fun _ h => List.mem_cons_of_mem _ (List.mem_append_right _ h)
  have hin_X5 : ∀ w ∈ wsX50, w ∈ wsX5_fits := fun _ h => List.mem_cons_of_mem _ (List.mem_append_left _ (List.mem_append_right _ h))
  have _h0 : True := trivial
  refine lv_iconst (v := (0 : Int32)) hx hb dX5_fits_0 (by decide) ?_
  refine lv_istore_n (lv' := [(2, .int (0 : Int32)), (0, .ref s0), (1, .ref f0)]) hx hb dX5_fits_1 rfl hl (by decide) rfl (fun ls hl => ?_)
  have L_2 : ∀ (fuel : Nat) (i : Nat), (i ≤ sn) → (fitB sh sm si i = true) → (sn - i) < fuel → ∀ (H : Heap) (locs : List Loc), va_P D vwCl [(s0, .inr (4, [.ref s1, .ref s2, .int (nI sn)])), (s1, .inl (cI, 8, .inl sh)), (s2, .inl (cI, 8, .inl sm)), (f0, .inr (0, [.ref f1, .int bt, .int lc])), (f1, .inl (cI, 8, .inl si))] H → va_D A [(s0, .inr (4, [.ref s1, .ref s2, .int (nI sn)])), (s1, .inl (cI, 8, .inl sh)), (s2, .inl (cI, 8, .inl sm)), (f0, .inr (0, [.ref f1, .int bt, .int lc])), (f1, .inl (cI, 8, .inl si))] → va_S A s.heap H locs → ∀ ls : Array Slot, lv_has ls 4 [(2, .int (nI i)), (0, .ref s0), (1, .ref f0)] → W p l e (xRm 0 0) s m ([.ref s0, .ref f0] : List Value).toArray below meth c H locs 0 0 Q (F0 m 2 ls []) := by
    intro fuel
    induction fuel with
    | zero =>
      intro i hi hf hm
      exact absurd hm (Nat.not_lt_zero _)
    | succ fuel ih_2 =>
      intro i hi hf hm_2 H locs hP hD hS ls hl
      refine lv_iload_n hx hb dX5_fits_2 rfl (lv_at hl 0 rfl) ?_
      refine lv_aload_n hx hb dX5_fits_3 rfl (lv_at hl 1 rfl) ?_
      refine va_get (D := D) (ci := 4) (v := .int (nI sn)) (C := RX5) (T := TX5) (N := 3) hx hb hts hin_X5 hown hK hP 0 rfl rfl 2 (by decide) w_0 (fun _ h9 => h9) rfl dX5_fits_4 ?_
      refine lv_icmp_ge (tgt := 50) hx hb dX5_fits_7 (by decide) (fun c_7 => ?_) (fun c_7 => ?_)
      ·
        have n_7 : sn ≤ i := (nI_leI (show sn < 2147483648 by omega) (show i < 2147483648 by omega)).1 c_7
        refine lv_iconst (v := (1 : Int32)) hx hb dX5_fits_50 (by decide) ?_
        exact hret _ () _ _ _ _ (rfl) (⟨by rw [show sn = i by omega, hf]; rfl, trivial⟩) hP hD hS dX5_fits_51
      ·
        have n_7 : i < sn := Nat.lt_of_not_le (fun q => c_7 ((nI_leI (show sn < 2147483648 by omega) (show i < 2147483648 by omega)).2 q))
        refine lv_aload_n hx hb dX5_fits_10 rfl (lv_at hl 1 rfl) ?_
        refine va_get (D := D) (ci := 4) (v := .ref s1) (C := RX5) (T := TX5) (N := 3) hx hb hts hin_X5 hown hK hP 0 rfl rfl 0 (by decide) w_1 (fun _ h9 => h9) rfl dX5_fits_11 ?_
        refine lv_iload_n hx hb dX5_fits_14 rfl (lv_at hl 0 rfl) ?_
        refine x_iald hx hb hK hP 1 0 rfl rfl (j := i) (by omega) (by decide) dX5_fits_15 ?_
        refine lv_istore_n (lv' := [(3, .int (sh i)), (2, .int (nI i)), (0, .ref s0), (1, .ref f0)]) hx hb dX5_fits_16 rfl hl (by decide) rfl (fun ls hl => ?_)
        refine lv_iload_n hx hb dX5_fits_17 rfl (lv_at hl 0 rfl) ?_
        refine lv_if_lt (tgt := 42) hx hb dX5_fits_18 (by decide) (fun c_18 => ?_) (fun c_18 => ?_)
        ·
          refine lv_iconst (v := (0 : Int32)) hx hb dX5_fits_42 (by decide) ?_
          exact hret _ () _ _ _ _ (rfl) (⟨by first | rw [fit_lo (show i < sn by omega) c_18]; rfl | rw [fit_hi (show i < sn by omega) c_24]; rfl | rw [fit_no2 (show i < sn by omega) eg1 hg1 c_39]; rfl, trivial⟩) hP hD hS dX5_fits_43
        ·
          refine lv_iload_n hx hb dX5_fits_21 rfl (lv_at hl 0 rfl) ?_
          refine lv_bipush (v := (8 : Int32)) hx hb dX5_fits_22 (by decide) ?_
          refine lv_icmp_ge (tgt := 42) hx hb dX5_fits_24 (by decide) (fun c_24 => ?_) (fun c_24 => ?_)
          ·
            refine lv_iconst (v := (0 : Int32)) hx hb dX5_fits_42 (by decide) ?_
            exact hret _ () _ _ _ _ (rfl) (⟨by first | rw [fit_lo (show i < sn by omega) c_18]; rfl | rw [fit_hi (show i < sn by omega) c_24]; rfl | rw [fit_no2 (show i < sn by omega) eg1 hg1 c_39]; rfl, trivial⟩) hP hD hS dX5_fits_43
          ·
            refine lv_aload_n hx hb dX5_fits_27 rfl (lv_at hl 3 rfl) ?_
            refine va_getN (D := D) (ci := 0) (v := .ref f1) (C := RX0) (T := TX0) (N := 3) hx hb hts hin_X0 hown hK hP 3 rfl rfl 0 (by decide) wn_0 (fun _ h9 => h9) rfl dX5_fits_28 ?_
            refine lv_iload_n hx hb dX5_fits_31 rfl (lv_at hl 0 rfl) ?_
            obtain ⟨g1, hg1, eg1⟩ := inb_nI (n := 8) (by omega) (decide_eq_true ⟨Int32.not_lt.1 c_18, Int32.not_le.1 c_24⟩)
            refine lv_topr eg1 ?_
            refine x_iald hx hb hK hP 4 0 rfl rfl (j := g1) (by omega) (by decide) dX5_fits_32 ?_
            refine lv_aload_n hx hb dX5_fits_33 rfl (lv_at hl 2 rfl) ?_
            refine va_get (D := D) (ci := 4) (v := .ref s2) (C := RX5) (T := TX5) (N := 3) hx hb hts hin_X5 hown hK hP 0 rfl rfl 1 (by decide) w_2 (fun _ h9 => h9) rfl dX5_fits_34 ?_
            refine lv_iload_n hx hb dX5_fits_37 rfl (lv_at hl 1 rfl) ?_
            refine x_iald hx hb hK hP 2 0 rfl rfl (j := i) (by omega) (by decide) dX5_fits_38 ?_
            refine lv_icmp_eq (tgt := 44) hx hb dX5_fits_39 (by decide) (fun c_39 => ?_) (fun c_39 => ?_)
            ·
              refine lv_iinc (v := nI (i + 1)) (lv' := [(2, .int (nI (i + 1))), (3, .int (sh i)), (0, .ref s0), (1, .ref f0)]) hx hb dX5_fits_44 hl (k := 1) rfl (by first | rfl | exact nI_add _ 1 | (simp only [] ; exact nI_add _ 1)) (by decide) rfl (fun ls hl => ?_)
              refine lv_goto (tgt := 2) hx hb dX5_fits_47 (by decide) ?_
              exact ih_2 (i + 1) (by omega) (fit_up hf eg1 hg1 (by first | exact c_39 | exact Decidable.not_not.1 c_39)) (by omega) _ _ hP hD hS _ (lv_sub hl [0, 2, 3] rfl)
            ·
              refine lv_iconst (v := (0 : Int32)) hx hb dX5_fits_42 (by decide) ?_
              exact hret _ () _ _ _ _ (rfl) (⟨by first | rw [fit_lo (show i < sn by omega) c_18]; rfl | rw [fit_hi (show i < sn by omega) c_24]; rfl | rw [fit_no2 (show i < sn by omega) eg1 hg1 c_39]; rfl, trivial⟩) hP hD hS dX5_fits_43
  exact L_2 (Nat.succ (sn - 0)) 0 (Nat.zero_le _) (rfl) (Nat.lt_succ_self _) _ _ hP hD hS _ (lv_sub hl [0, 1, 2] rfl)

set_option maxHeartbeats 4000000 in
set_option maxRecDepth 100000 in
theorem c_X6_empty (l : Launch) (D : va_G) (cI cZ cO : ClassId) (sz : Nat) (t0 : Nat) (t1 : Nat) (ty : Nat) (bt : Nat → Nat) (hty : ty ≤ 300) : xMi l yX6_empty wsX6_empty (0) (0) D (TY cI cZ cO) xG0 [.ref t0] [(t0, .inr (5, [.ref t1, .int (nI ty)])), (t1, .inl (cI, 300, .inl (rI bt)))] sz (fun (rv_ : Int32) (u : Unit) => rv_ = (nI ty) ∧ (True)) (fun (u : Unit) => [(t0, .inr (5, [.ref t1, .int (nI 0)])), (t1, .inl (cI, 300, .inl (rI bt)))]) := by
  refine xMi.of (cc := cX6_empty) (maxL := 2) (by decide +kernel) rfl (Nat.le_of_ble_eq_true rfl) ?_
  intro p e s m below meth c A Q H hx hb hml hown hts hA hP hD hK hS hG hret ls hl
  have hown : s.vm.findClass RX6 = some m.cls := hown
  have hP : va_P D vwCl [(t0, .inr (5, [.ref t1, .int (nI ty)])), (t1, .inl (cI, 300, .inl (rI bt)))] H := hP
  have hD : va_D A [(t0, .inr (5, [.ref t1, .int (nI ty)])), (t1, .inl (cI, 300, .inl (rI bt)))] := hD
  have hl : lv_has ls 2 [(0, .ref t0)] := hl
  have w_0 := hts (.fieldLink RX6 15 "UnlikeRoofs$Text" "length" "I") (List.mem_of_getElem? (i := 1) (by rfl))
  have hin_X6 : ∀ w ∈ wsX60, w ∈ wsX6_empty := fun _ h => List.mem_cons_of_mem _ (List.mem_append_right _ h)
  have _h0 : True := trivial
  refine lv_aload_n hx hb dX6_empty_0 rfl (lv_at hl 0 rfl) ?_
  refine va_get (D := D) (ci := 5) (v := .int (nI ty)) (C := RX6) (T := TX6) (N := 2) hx hb hts hin_X6 hown hK hP 0 rfl rfl 1 (by decide) w_0 (fun _ h9 => h9) rfl dX6_empty_1 ?_
  refine lv_istore_n (lv' := [(1, .int (nI ty)), (0, .ref t0)]) hx hb dX6_empty_4 rfl hl (by decide) rfl (fun ls hl => ?_)
  refine lv_aload_n hx hb dX6_empty_5 rfl (lv_at hl 1 rfl) ?_
  refine lv_iconst (v := (0 : Int32)) hx hb dX6_empty_6 (by decide) ?_
  refine va_put (D := D) (ci := 5) (v := .int (0 : Int32)) (ty := .int) (C := RX6) (T := TX6) (N := 2) hx hb hts hin_X6 tyX6 tyX6_ok nmX6 hown hK hP hD hS 0 rfl rfl 1 (by decide) w_0 (fun _ h9 => h9) rfl (by decide +kernel) rfl rfl (Nat.le_of_ble_eq_true rfl) dX6_empty_7 (fun H locs hP hD hS => ?_)
  have hP : va_P D vwCl [(t0, .inr (5, [.ref t1, .int (0 : Int32)])), (t1, .inl (cI, 300, .inl (rI bt)))] H := hP
  have hD : va_D A [(t0, .inr (5, [.ref t1, .int (0 : Int32)])), (t1, .inl (cI, 300, .inl (rI bt)))] := hD
  refine lv_iload_n hx hb dX6_empty_10 rfl (lv_at hl 0 rfl) ?_
  exact hret _ () _ _ _ _ (rfl) (⟨rfl, trivial⟩) hP hD hS dX6_empty_11

set_option maxHeartbeats 4000000 in
set_option maxRecDepth 100000 in
theorem c_X6_byteAt (l : Launch) (D : va_G) (cI cZ cO : ClassId) (sz : Nat) (t0 : Nat) (t1 : Nat) (ty : Nat) (bt : Nat → Nat) (j : Nat) (hty : ty ≤ 300) (hj : j < 2147483648) : xMi l yX6_byteAt wsX6_byteAt (0) (0) D (TY cI cZ cO) xG0 [.ref t0, .int (nI j)] [(t0, .inr (5, [.ref t1, .int (nI ty)])), (t1, .inl (cI, 300, .inl (rI bt)))] sz (fun (rv_ : Int32) (u : Unit) => rv_ = (if j < ty then nI (bt j) else (-9)) ∧ (True)) (fun (u : Unit) => [(t0, .inr (5, [.ref t1, .int (nI ty)])), (t1, .inl (cI, 300, .inl (rI bt)))]) := by
  refine xMi.of (cc := cX6_byteAt) (maxL := 2) (by decide +kernel) rfl (Nat.le_of_ble_eq_true rfl) ?_
  intro p e s m below meth c A Q H hx hb hml hown hts hA hP hD hK hS hG hret ls hl
  have hown : s.vm.findClass RX6 = some m.cls := hown
  have hP : va_P D vwCl [(t0, .inr (5, [.ref t1, .int (nI ty)])), (t1, .inl (cI, 300, .inl (rI bt)))] H := hP
  have hD : va_D A [(t0, .inr (5, [.ref t1, .int (nI ty)])), (t1, .inl (cI, 300, .inl (rI bt)))] := hD
  have hl : lv_has ls 2 [(0, .ref t0), (1, .int (nI j))] := hl
  have w_0 := hts (.fieldLink RX6 15 "UnlikeRoofs$Text" "length" "I") (List.mem_of_getElem? (i := 1) (by rfl))
  have w_1 := hts (.fieldLink RX6 9 "UnlikeRoofs$Text" "bytes" "[I") (List.mem_of_getElem? (i := 2) (by rfl))
  have hin_X6 : ∀ w ∈ wsX60, w ∈ wsX6_byteAt := fun _ h => List.mem_cons_of_mem _ (List.mem_append_right _ h)
  have _h0 : True := trivial
  refine lv_iload_n hx hb dX6_byteAt_0 rfl (lv_at hl 1 rfl) ?_
  refine lv_if_lt (tgt := 21) hx hb dX6_byteAt_1 (by decide) (fun c_1 => ?_) (fun c_1 => ?_)
  ·
    exact absurd c_1 (nI_pos (show j < 2147483648 by omega))
  ·
    refine lv_iload_n hx hb dX6_byteAt_4 rfl (lv_at hl 1 rfl) ?_
    refine lv_aload_n hx hb dX6_byteAt_5 rfl (lv_at hl 0 rfl) ?_
    refine va_get (D := D) (ci := 5) (v := .int (nI ty)) (C := RX6) (T := TX6) (N := 2) hx hb hts hin_X6 hown hK hP 0 rfl rfl 1 (by decide) w_0 (fun _ h9 => h9) rfl dX6_byteAt_6 ?_
    refine lv_icmp_ge (tgt := 21) hx hb dX6_byteAt_9 (by decide) (fun c_9 => ?_) (fun c_9 => ?_)
    ·
      have n_9 : ty ≤ j := (nI_leI (show ty < 2147483648 by omega) (show j < 2147483648 by omega)).1 c_9
      refine lv_bipush (v := (-9 : Int32)) hx hb dX6_byteAt_21 (by decide) ?_
      exact hret _ () _ _ _ _ (rfl) (⟨by first | exact (if_pos n_9).symm | exact (if_neg (by omega)).symm | exact (if_pos (by omega)).symm, trivial⟩) hP hD hS dX6_byteAt_23
    ·
      have n_9 : j < ty := Nat.lt_of_not_le (fun q => c_9 ((nI_leI (show ty < 2147483648 by omega) (show j < 2147483648 by omega)).2 q))
      refine lv_aload_n hx hb dX6_byteAt_12 rfl (lv_at hl 0 rfl) ?_
      refine va_get (D := D) (ci := 5) (v := .ref t1) (C := RX6) (T := TX6) (N := 2) hx hb hts hin_X6 hown hK hP 0 rfl rfl 0 (by decide) w_1 (fun _ h9 => h9) rfl dX6_byteAt_13 ?_
      refine lv_iload_n hx hb dX6_byteAt_16 rfl (lv_at hl 1 rfl) ?_
      refine x_iald hx hb hK hP 1 0 rfl rfl (j := j) (by omega) (by decide) dX6_byteAt_17 ?_
      refine lv_goto (tgt := 23) hx hb dX6_byteAt_18 (by decide) ?_
      exact hret _ () _ _ _ _ (rfl) (⟨by first | exact (if_pos n_9).symm | exact (if_neg (by omega)).symm | exact (if_pos (by omega)).symm, trivial⟩) hP hD hS dX6_byteAt_23

set_option maxHeartbeats 4000000 in
set_option maxRecDepth 100000 in
theorem c_X6_append (l : Launch) (D : va_G) (cI cZ cO : ClassId) (sz : Nat) (t0 : Nat) (t1 : Nat) (ty : Nat) (bt : Nat → Nat) (v : Int64) (nn : Nat) (hty : ty ≤ 300) (hn1 : 1 ≤ nn) (hn8 : nn ≤ 8) : xMi l yX6_append wsX6_append (0) (0) D (TY cI cZ cO) xG0 [.ref t0, .long v, .int (nI nn)] [(t0, .inr (5, [.ref t1, .int (nI ty)])), (t1, .inl (cI, 300, .inl (rI bt)))] sz (fun (rv_ : Int32) (u : Nat × (Nat → Nat)) => rv_ = (bb (decide (ty + nn ≤ 300))) ∧ ((u.1) = (if ty + nn ≤ 300 then ty + nn else ty) ∧ (u.2) = (if ty + nn ≤ 300 then apB bt v ty nn nn else bt))) (fun (u : Nat × (Nat → Nat)) => [(t0, .inr (5, [.ref t1, .int (nI (u.1))])), (t1, .inl (cI, 300, .inl (rI (u.2))))]) := by
  refine xMi.of (cc := cX6_append) (maxL := 5) (by decide +kernel) rfl (Nat.le_of_ble_eq_true rfl) ?_
  intro p e s m below meth c A Q H hx hb hml hown hts hA hP hD hK hS hG hret ls hl
  have hown : s.vm.findClass RX6 = some m.cls := hown
  have hP : va_P D vwCl [(t0, .inr (5, [.ref t1, .int (nI ty)])), (t1, .inl (cI, 300, .inl (rI bt)))] H := hP
  have hD : va_D A [(t0, .inr (5, [.ref t1, .int (nI ty)])), (t1, .inl (cI, 300, .inl (rI bt)))] := hD
  have hl : lv_has ls 5 [(0, .ref t0), (1, .long v), (3, .int (nI nn))] := hl
  have w_0 := hts (.fieldLink RX6 15 "UnlikeRoofs$Text" "length" "I") (List.mem_of_getElem? (i := 1) (by rfl))
  have w_1 := hts (.fieldLink RX6 9 "UnlikeRoofs$Text" "bytes" "[I") (List.mem_of_getElem? (i := 2) (by rfl))
  have hin_X6 : ∀ w ∈ wsX60, w ∈ wsX6_append := fun _ h => List.mem_cons_of_mem _ (List.mem_append_right _ h)
  have _h0 : True := trivial
  refine lv_iload_n hx hb dX6_append_0 rfl (lv_at hl 2 rfl) ?_
  refine lv_iconst (v := (1 : Int32)) hx hb dX6_append_1 (by decide) ?_
  refine lv_icmp_lt (tgt := 25) hx hb dX6_append_2 (by decide) (fun c_2 => ?_) (fun c_2 => ?_)
  ·
    have n_2 : nn < 1 := (nI_ltI (show nn < 2147483648 by omega) (show 1 < 2147483648 by omega)).1 c_2
    exact absurd n_2 (by omega)
  ·
    have n_2 : 1 ≤ nn := Nat.le_of_not_lt (fun q => c_2 ((nI_ltI (show nn < 2147483648 by omega) (show 1 < 2147483648 by omega)).2 q))
    refine lv_iload_n hx hb dX6_append_5 rfl (lv_at hl 2 rfl) ?_
    refine lv_bipush (v := (8 : Int32)) hx hb dX6_append_6 (by decide) ?_
    refine lv_icmp_gt (tgt := 25) hx hb dX6_append_8 (by decide) (fun c_8 => ?_) (fun c_8 => ?_)
    ·
      have n_8 : 8 < nn := (nI_ltI (show 8 < 2147483648 by omega) (show nn < 2147483648 by omega)).1 c_8
      exact absurd n_8 (by omega)
    ·
      have n_8 : nn ≤ 8 := Nat.le_of_not_lt (fun q => c_8 ((nI_ltI (show 8 < 2147483648 by omega) (show nn < 2147483648 by omega)).2 q))
      refine lv_aload_n hx hb dX6_append_11 rfl (lv_at hl 0 rfl) ?_
      refine va_get (D := D) (ci := 5) (v := .int (nI ty)) (C := RX6) (T := TX6) (N := 2) hx hb hts hin_X6 hown hK hP 0 rfl rfl 1 (by decide) w_0 (fun _ h9 => h9) rfl dX6_append_12 ?_
      refine lv_aload_n hx hb dX6_append_15 rfl (lv_at hl 0 rfl) ?_
      refine va_get (D := D) (ci := 5) (v := .ref t1) (C := RX6) (T := TX6) (N := 2) hx hb hts hin_X6 hown hK hP 0 rfl rfl 0 (by decide) w_1 (fun _ h9 => h9) rfl dX6_append_16 ?_
      refine va_alen (v := (300 : Int32)) hx hb hK hP 1 0 rfl rfl rfl dX6_append_19 ?_
      refine lv_iload_n hx hb dX6_append_20 rfl (lv_at hl 2 rfl) ?_
      refine lv_isub hx hb dX6_append_21 ?_
      refine lv_topr (x' := nI (300 - nn)) (pk_sub (show nn ≤ 300 by omega)) ?_
      refine lv_icmp_le (tgt := 27) hx hb dX6_append_22 (by decide) (fun c_22 => ?_) (fun c_22 => ?_)
      ·
        have n_22 : ty ≤ (300 - nn) := (nI_leI (show ty < 2147483648 by omega) (show (300 - nn) < 2147483648 by omega)).1 c_22
        refine lv_iload_n hx hb dX6_append_27 rfl (lv_at hl 2 rfl) ?_
        refine lv_iconst (v := (1 : Int32)) hx hb dX6_append_28 (by decide) ?_
        refine lv_isub hx hb dX6_append_29 ?_
        refine lv_istore (lv' := [(4, .int ((nI nn) - (1 : Int32))), (0, .ref t0), (1, .long v), (3, .int (nI nn))]) hx hb dX6_append_30 hl (by decide) rfl (fun ls hl => ?_)
        have L_32 : ∀ (fuel : Nat) (le : Nat) (tb : Nat → Nat) (i : Nat) (x : Int32), (i ≤ nn) → (x = nI i - 1) → (le = ty + (nn - i)) → (tb = apB bt v ty nn (nn - i)) → (i) < fuel → ∀ (H : Heap) (locs : List Loc), va_P D vwCl [(t0, .inr (5, [.ref t1, .int (nI le)])), (t1, .inl (cI, 300, .inl (rI tb)))] H → va_D A [(t0, .inr (5, [.ref t1, .int (nI le)])), (t1, .inl (cI, 300, .inl (rI tb)))] → va_S A s.heap H locs → ∀ ls : Array Slot, lv_has ls 5 [(4, .int x), (0, .ref t0), (1, .long v), (3, .int (nI nn))] → W p l e (xRm 0 0) s m ([.ref t0, .long v, .int (nI nn)] : List Value).toArray below meth c H locs 0 0 Q (F0 m 32 ls []) := by
          intro fuel
          induction fuel with
          | zero =>
            intro le tb i x hi hx2 hle htb hm
            exact absurd hm (Nat.not_lt_zero _)
          | succ fuel ih_32 =>
            intro le tb i x hi hx2 hle htb hm_32 H locs hP hD hS ls hl
            refine lv_iload hx hb dX6_append_32 (lv_at hl 0 rfl) ?_
            refine lv_if_lt (tgt := 74) hx hb dX6_append_34 (by decide) (fun c_34 => ?_) (fun c_34 => ?_)
            ·
              have hi0 : i = 0 := dec_zero hx2 (by omega) c_34
              refine lv_iconst (v := (1 : Int32)) hx hb dX6_append_74 (by decide) ?_
              exact hret _ (le, tb) _ _ _ _ (rfl) (⟨by first | exact bbT (by omega) | exact bbF (by omega), by first | (rw [if_pos (by omega)]; omega) | exact (if_neg (by omega)).symm, by first | (rw [if_pos (by omega), htb, show nn - i = nn by omega]) | exact (if_neg (by omega)).symm⟩) hP hD hS dX6_append_75
            ·
              obtain ⟨i2, rfl⟩ := dec_pos hx2 (by omega) c_34
              obtain rfl : x = nI i2 := hx2.trans (nI_pred i2)
              refine lv_aload_n hx hb dX6_append_37 rfl (lv_at hl 1 rfl) ?_
              refine va_get (D := D) (ci := 5) (v := .ref t1) (C := RX6) (T := TX6) (N := 2) hx hb hts hin_X6 hown hK hP 0 rfl rfl 0 (by decide) w_1 (fun _ h9 => h9) rfl dX6_append_38 ?_
              refine lv_aload_n hx hb dX6_append_41 rfl (lv_at hl 1 rfl) ?_
              refine va_get (D := D) (ci := 5) (v := .int (nI le)) (C := RX6) (T := TX6) (N := 2) hx hb hts hin_X6 hown hK hP 0 rfl rfl 1 (by decide) w_0 (fun _ h9 => h9) rfl dX6_append_42 ?_
              refine lv_lload_n hx hb dX6_append_45 rfl (lv_at hl 2 rfl) ?_
              refine lv_bipush (v := (8 : Int32)) hx hb dX6_append_46 (by decide) ?_
              refine lv_iload hx hb dX6_append_48 (lv_at hl 0 rfl) ?_
              refine lv_imul hx hb dX6_append_50 ?_
              refine lv_topr (x' := (8 : Int32) * nI i2) (rfl) ?_
              refine lv_lushr hx hb dX6_append_51 rfl ?_
              refine lv_l2i hx hb dX6_append_52 rfl ?_
              refine lv_sipush (v := (255 : Int32)) hx hb dX6_append_53 (by decide) ?_
              refine lv_iand hx hb dX6_append_56 ?_
              refine lv_topr (x' := nI (byV v i2)) (by_cls (by omega)) ?_
              refine x_iastN hx hb hK hP hD hS 1 0 rfl rfl (j := le) (by omega) (by decide) dX6_append_57 (fun H locs hP hD hS => ?_)
              have hP : va_P D vwCl [(t0, .inr (5, [.ref t1, .int (nI le)])), (t1, .inl (cI, 300, .inl (rI (updN tb le (byV v i2)))))] H := hP
              have hD : va_D A [(t0, .inr (5, [.ref t1, .int (nI le)])), (t1, .inl (cI, 300, .inl (rI (updN tb le (byV v i2)))))] := hD
              refine lv_aload_n hx hb dX6_append_58 rfl (lv_at hl 1 rfl) ?_
              refine lv_dup hx hb dX6_append_59 rfl ?_
              refine va_get (D := D) (ci := 5) (v := .int (nI le)) (C := RX6) (T := TX6) (N := 2) hx hb hts hin_X6 hown hK hP 0 rfl rfl 1 (by decide) w_0 (fun _ h9 => h9) rfl dX6_append_60 ?_
              refine lv_iconst (v := (1 : Int32)) hx hb dX6_append_63 (by decide) ?_
              refine lv_iadd hx hb dX6_append_64 ?_
              refine lv_topr (x' := nI (le + 1)) (nI_add le 1) ?_
              refine va_put (D := D) (ci := 5) (v := .int (nI (le + 1))) (ty := .int) (C := RX6) (T := TX6) (N := 2) hx hb hts hin_X6 tyX6 tyX6_ok nmX6 hown hK hP hD hS 0 rfl rfl 1 (by decide) w_0 (fun _ h9 => h9) rfl (by decide +kernel) rfl rfl (Nat.le_of_ble_eq_true rfl) dX6_append_65 (fun H locs hP hD hS => ?_)
              have hP : va_P D vwCl [(t0, .inr (5, [.ref t1, .int (nI (le + 1))])), (t1, .inl (cI, 300, .inl (rI (updN tb le (byV v i2)))))] H := hP
              have hD : va_D A [(t0, .inr (5, [.ref t1, .int (nI (le + 1))])), (t1, .inl (cI, 300, .inl (rI (updN tb le (byV v i2)))))] := hD
              refine lv_iinc (v := (nI i2) + (-1)) (lv' := [(4, .int ((nI i2) + (-1))), (0, .ref t0), (1, .long v), (3, .int (nI nn))]) hx hb dX6_append_68 hl (k := 0) rfl (by rfl) (by decide) rfl (fun ls hl => ?_)
              refine lv_goto (tgt := 32) hx hb dX6_append_71 (by decide) ?_
              exact ih_32 (le + 1) (updN tb le (byV v i2)) i2 ((nI i2) + (-1)) (by omega) (nI_dec3 _) (by omega) (by rw [htb, hle]; exact apB_s (by omega)) (by omega) _ _ hP hD hS _ (lv_sub hl [0, 1, 2, 3] rfl)
        exact L_32 (Nat.succ (nn)) ty bt nn ((nI nn) - (1 : Int32)) (Nat.le_refl _) (rfl) (by omega) (by rw [Nat.sub_self]; exact apB_0.symm) (Nat.lt_succ_self _) _ _ hP hD hS _ (lv_sub hl [0, 1, 2, 3] rfl)
      ·
        have n_22 : (300 - nn) < ty := Nat.lt_of_not_le (fun q => c_22 ((nI_leI (show ty < 2147483648 by omega) (show (300 - nn) < 2147483648 by omega)).2 q))
        refine lv_iconst (v := (0 : Int32)) hx hb dX6_append_25 (by decide) ?_
        exact hret _ (ty, bt) _ _ _ _ (rfl) (⟨by first | exact bbT (by omega) | exact bbF (by omega), by first | (rw [if_pos (by omega)]; omega) | exact (if_neg (by omega)).symm, by first | (rw [if_pos (by omega), htb, show nn - i = nn by omega]) | exact (if_neg (by omega)).symm⟩) hP hD hS dX6_append_26

set_option maxHeartbeats 4000000 in
set_option maxRecDepth 100000 in
theorem c_X1_take (l : Launch) (D : va_G) (cI cZ cO : ClassId) (sz : Nat) (gR : Nat) (gD : Nat) (gK : Nat → Nat) (gV : Nat → Nat) (i0 : Nat) (i1 : Nat) (iw : Int32) (il : Int32) (ik : Bool) (ir : Nat → Int32) (i2 : Nat) (j1 : Nat) (j2 : Nat) (jn : Nat) (jh : Nat → Int32) (jm : Nat → Int32) (o0 : Nat) (o1 : Nat) (o2 : Nat) (o3 : Nat) (o4 : Nat) (o5 : Nat) (o6 : Nat) (xs : Nat → Int32) (ys : Nat → Int32) (rf : Nat → Int32) (bo : Nat → Int32) (pr : Nat → Int32) (bu : Nat → Int32) (n : Nat) (k : Nat) (wd : Int32) (wt : Bool) (s0 : Nat) (s1 : Nat) (s2 : Nat) (sn : Nat) (sh : Nat → Int32) (sm : Nat → Int32) (lo : Int32)  : xMv l yX1_take wsX1_take (2) (65) D (TY cI cZ cO) (xGc gR gD gK gV) [.ref i0, .ref o0, .int lo, .ref s0] [(i0, .inr (1, [.ref i1, .ref i2, .int iw, .int il, .int (bb ik)])), (i1, .inl (cI, 8, .inl ir)), (i2, .inr (4, [.ref j1, .ref j2, .int (nI jn)])), (j1, .inl (cI, 8, .inl jh)), (j2, .inl (cI, 8, .inl jm)), (o0, .inr (7, [.ref o1, .ref o2, .ref o3, .ref o4, .ref o5, .ref o6, .int (nI n), .int (nI k), .int wd, .int (bb wt)])), (o1, .inl (cI, 8, .inl xs)), (o2, .inl (cI, 8, .inl ys)), (o3, .inl (cI, 8, .inl rf)), (o4, .inl (cI, 8, .inl bo)), (o5, .inl (cI, 4, .inl pr)), (o6, .inl (cI, 4, .inl bu)), (s0, .inr (4, [.ref s1, .ref s2, .int (nI sn)])), (s1, .inl (cI, 8, .inl sh)), (s2, .inl (cI, 8, .inl sm))] sz (fun (u : Unit) => (True)) (fun (u : Unit) => [(i0, .inr (1, [.ref i1, .ref i2, .int wd, .int lo, .int (bb true)])), (i1, .inl (cI, 8, .inl rf)), (i2, .inr (4, [.ref j1, .ref j2, .int (nI sn)])), (j1, .inl (cI, 8, .inl sh)), (j2, .inl (cI, 8, .inl sm)), (o0, .inr (7, [.ref o1, .ref o2, .ref o3, .ref o4, .ref o5, .ref o6, .int (nI n), .int (nI k), .int wd, .int (bb wt)])), (o1, .inl (cI, 8, .inl xs)), (o2, .inl (cI, 8, .inl ys)), (o3, .inl (cI, 8, .inl rf)), (o4, .inl (cI, 8, .inl bo)), (o5, .inl (cI, 4, .inl pr)), (o6, .inl (cI, 4, .inl bu)), (s0, .inr (4, [.ref s1, .ref s2, .int (nI sn)])), (s1, .inl (cI, 8, .inl sh)), (s2, .inl (cI, 8, .inl sm))]) := by
  refine xMv.of (cc := cX1_take) (maxL := 4) (by decide +kernel) rfl (Nat.le_of_ble_eq_true rfl) ?_
  intro p e s m below meth c A Q H hx hb hml hown hts hA hP hD hK hS hG hret ls hl
  have hown : s.vm.findClass RX1 = some m.cls := hown
  have hP : va_P D vwCl [(i0, .inr (1, [.ref i1, .ref i2, .int iw, .int il, .int (bb ik)])), (i1, .inl (cI, 8, .inl ir)), (i2, .inr (4, [.ref j1, .ref j2, .int (nI jn)])), (j1, .inl (cI, 8, .inl jh)), (j2, .inl (cI, 8, .inl jm)), (o0, .inr (7, [.ref o1, .ref o2, .ref o3, .ref o4, .ref o5, .ref o6, .int (nI n), .int (nI k), .int wd, .int (bb wt)])), (o1, .inl (cI, 8, .inl xs)), (o2, .inl (cI, 8, .inl ys)), (o3, .inl (cI, 8, .inl rf)), (o4, .inl (cI, 8, .inl bo)), (o5, .inl (cI, 4, .inl pr)), (o6, .inl (cI, 4, .inl bu)), (s0, .inr (4, [.ref s1, .ref s2, .int (nI sn)])), (s1, .inl (cI, 8, .inl sh)), (s2, .inl (cI, 8, .inl sm))] H := hP
  have hD : va_D A [(i0, .inr (1, [.ref i1, .ref i2, .int iw, .int il, .int (bb ik)])), (i1, .inl (cI, 8, .inl ir)), (i2, .inr (4, [.ref j1, .ref j2, .int (nI jn)])), (j1, .inl (cI, 8, .inl jh)), (j2, .inl (cI, 8, .inl jm)), (o0, .inr (7, [.ref o1, .ref o2, .ref o3, .ref o4, .ref o5, .ref o6, .int (nI n), .int (nI k), .int wd, .int (bb wt)])), (o1, .inl (cI, 8, .inl xs)), (o2, .inl (cI, 8, .inl ys)), (o3, .inl (cI, 8, .inl rf)), (o4, .inl (cI, 8, .inl bo)), (o5, .inl (cI, 4, .inl pr)), (o6, .inl (cI, 4, .inl bu)), (s0, .inr (4, [.ref s1, .ref s2, .int (nI sn)])), (s1, .inl (cI, 8, .inl sh)), (s2, .inl (cI, 8, .inl sm))] := hD
  have hl : lv_has ls 4 [(0, .ref i0), (1, .ref o0), (2, .int lo), (3, .ref s0)] := hl
  have w_0 := hts (.fieldLink RX1 9 "UnlikeRoofs$Image" "roofs" "[I") (List.mem_of_getElem? (i := 1) (by rfl))
  have w_1 := hts (.methodLink RX1 25 arraycopyName) (List.mem_of_getElem? (i := 2) (by rfl))
  have w_2 := hts (.native arraycopyName) (List.mem_of_getElem? (i := 3) (by rfl))
  have w_3 := hts (.static arraycopyName) (List.mem_of_getElem? (i := 4) (by rfl))
  have w_4 := hts (.initialized "java/lang/System") (List.mem_of_getElem? (i := 5) (by rfl))
  have w_5 := hts (.fieldLink RX1 35 "UnlikeRoofs$Image" "blowing" "I") (List.mem_of_getElem? (i := 6) (by rfl))
  have w_6 := hts (.fieldLink RX1 36 "UnlikeRoofs$Image" "drawn" "I") (List.mem_of_getElem? (i := 7) (by rfl))
  have w_7 := hts (.fieldLink RX1 18 "UnlikeRoofs$Image" "seen" "LUnlikeRoofs$Seen;") (List.mem_of_getElem? (i := 8) (by rfl))
  have w_8 := hts (.fieldLink RX1 43 "UnlikeRoofs$Image" "kept" "Z") (List.mem_of_getElem? (i := 9) (by rfl))
  have wn_0 : (Cond.fieldLinkNest RX1 22 "UnlikeRoofs$Town" "roofs" "[I" "UnlikeRoofs").before ([.ref i0, .ref o0, .int lo, .ref s0] : List Value).toArray s = true := va_Nw.use rfl (hG.1 (.fieldLinkNest RX1 22 "UnlikeRoofs$Town" "roofs" "[I" "UnlikeRoofs") (List.mem_of_getElem? (i := 11) (by rfl)))
  have wn_1 : (Cond.fieldLinkNest RX1 31 "UnlikeRoofs$Town" "blowing" "I" "UnlikeRoofs").before ([.ref i0, .ref o0, .int lo, .ref s0] : List Value).toArray s = true := va_Nw.use rfl (hG.1 (.fieldLinkNest RX1 31 "UnlikeRoofs$Town" "blowing" "I" "UnlikeRoofs") (List.mem_of_getElem? (i := 26) (by rfl)))
  have hin_X1 : ∀ w ∈ wsX10, w ∈ wsX1_take := fun _ h => List.mem_cons_of_mem _ (List.mem_append_left _ (List.mem_append_right _ h))
  have hin_X8 : ∀ w ∈ wsX80, w ∈ wsX1_take := fun _ h => List.mem_cons_of_mem _ (List.mem_append_left _ (List.mem_append_left _ (List.mem_append_right _ h)))
  have _h0 : True := trivial
  refine lv_aload_n hx hb dX1_take_0 rfl (lv_at hl 1 rfl) ?_
  refine va_getN (D := D) (ci := 7) (v := .ref o3) (C := RX8) (T := TX8) (N := 10) hx hb hts hin_X8 hown hK hP 5 rfl rfl 2 (by decide) wn_0 (fun _ h9 => h9) rfl dX1_take_1 ?_
  refine lv_iconst (v := (0 : Int32)) hx hb dX1_take_4 (by decide) ?_
  refine lv_aload_n hx hb dX1_take_5 rfl (lv_at hl 0 rfl) ?_
  refine va_get (D := D) (ci := 1) (v := .ref i1) (C := RX1) (T := TX1) (N := 5) hx hb hts hin_X1 hown hK hP 0 rfl rfl 0 (by decide) w_0 (fun _ h9 => h9) rfl dX1_take_6 ?_
  refine lv_iconst (v := (0 : Int32)) hx hb dX1_take_9 (by decide) ?_
  refine lv_bipush (v := (8 : Int32)) hx hb dX1_take_10 (by decide) ?_
  refine x_copy8 hx hb (hml.trans hl.1.symm) hown w_1 w_2 w_3 w_4 hK hP hD hS 8 1 0 rfl rfl rfl (Nat.le_of_ble_eq_true rfl) (Nat.le_of_ble_eq_true rfl) dX1_take_12 (fun H locs hP hD hS => ?_)
  have hP : va_P D vwCl [(i0, .inr (1, [.ref i1, .ref i2, .int iw, .int il, .int (bb ik)])), (i1, .inl (cI, 8, .inl rf)), (i2, .inr (4, [.ref j1, .ref j2, .int (nI jn)])), (j1, .inl (cI, 8, .inl jh)), (j2, .inl (cI, 8, .inl jm)), (o0, .inr (7, [.ref o1, .ref o2, .ref o3, .ref o4, .ref o5, .ref o6, .int (nI n), .int (nI k), .int wd, .int (bb wt)])), (o1, .inl (cI, 8, .inl xs)), (o2, .inl (cI, 8, .inl ys)), (o3, .inl (cI, 8, .inl rf)), (o4, .inl (cI, 8, .inl bo)), (o5, .inl (cI, 4, .inl pr)), (o6, .inl (cI, 4, .inl bu)), (s0, .inr (4, [.ref s1, .ref s2, .int (nI sn)])), (s1, .inl (cI, 8, .inl sh)), (s2, .inl (cI, 8, .inl sm))] H := hP
  have hD : va_D A [(i0, .inr (1, [.ref i1, .ref i2, .int iw, .int il, .int (bb ik)])), (i1, .inl (cI, 8, .inl rf)), (i2, .inr (4, [.ref j1, .ref j2, .int (nI jn)])), (j1, .inl (cI, 8, .inl jh)), (j2, .inl (cI, 8, .inl jm)), (o0, .inr (7, [.ref o1, .ref o2, .ref o3, .ref o4, .ref o5, .ref o6, .int (nI n), .int (nI k), .int wd, .int (bb wt)])), (o1, .inl (cI, 8, .inl xs)), (o2, .inl (cI, 8, .inl ys)), (o3, .inl (cI, 8, .inl rf)), (o4, .inl (cI, 8, .inl bo)), (o5, .inl (cI, 4, .inl pr)), (o6, .inl (cI, 4, .inl bu)), (s0, .inr (4, [.ref s1, .ref s2, .int (nI sn)])), (s1, .inl (cI, 8, .inl sh)), (s2, .inl (cI, 8, .inl sm))] := hD
  refine lv_aload_n hx hb dX1_take_15 rfl (lv_at hl 0 rfl) ?_
  refine lv_aload_n hx hb dX1_take_16 rfl (lv_at hl 1 rfl) ?_
  refine va_getN (D := D) (ci := 7) (v := .int wd) (C := RX8) (T := TX8) (N := 10) hx hb hts hin_X8 hown hK hP 5 rfl rfl 8 (by decide) wn_1 (fun _ h9 => h9) rfl dX1_take_17 ?_
  refine va_put (D := D) (ci := 1) (v := .int wd) (ty := .int) (C := RX1) (T := TX1) (N := 5) hx hb hts hin_X1 tyX1 tyX1_ok nmX1 hown hK hP hD hS 0 rfl rfl 2 (by decide) w_5 (fun _ h9 => h9) rfl (by decide +kernel) rfl rfl (Nat.le_of_ble_eq_true rfl) dX1_take_20 (fun H locs hP hD hS => ?_)
  have hP : va_P D vwCl [(i0, .inr (1, [.ref i1, .ref i2, .int wd, .int il, .int (bb ik)])), (i1, .inl (cI, 8, .inl rf)), (i2, .inr (4, [.ref j1, .ref j2, .int (nI jn)])), (j1, .inl (cI, 8, .inl jh)), (j2, .inl (cI, 8, .inl jm)), (o0, .inr (7, [.ref o1, .ref o2, .ref o3, .ref o4, .ref o5, .ref o6, .int (nI n), .int (nI k), .int wd, .int (bb wt)])), (o1, .inl (cI, 8, .inl xs)), (o2, .inl (cI, 8, .inl ys)), (o3, .inl (cI, 8, .inl rf)), (o4, .inl (cI, 8, .inl bo)), (o5, .inl (cI, 4, .inl pr)), (o6, .inl (cI, 4, .inl bu)), (s0, .inr (4, [.ref s1, .ref s2, .int (nI sn)])), (s1, .inl (cI, 8, .inl sh)), (s2, .inl (cI, 8, .inl sm))] H := hP
  have hD : va_D A [(i0, .inr (1, [.ref i1, .ref i2, .int wd, .int il, .int (bb ik)])), (i1, .inl (cI, 8, .inl rf)), (i2, .inr (4, [.ref j1, .ref j2, .int (nI jn)])), (j1, .inl (cI, 8, .inl jh)), (j2, .inl (cI, 8, .inl jm)), (o0, .inr (7, [.ref o1, .ref o2, .ref o3, .ref o4, .ref o5, .ref o6, .int (nI n), .int (nI k), .int wd, .int (bb wt)])), (o1, .inl (cI, 8, .inl xs)), (o2, .inl (cI, 8, .inl ys)), (o3, .inl (cI, 8, .inl rf)), (o4, .inl (cI, 8, .inl bo)), (o5, .inl (cI, 4, .inl pr)), (o6, .inl (cI, 4, .inl bu)), (s0, .inr (4, [.ref s1, .ref s2, .int (nI sn)])), (s1, .inl (cI, 8, .inl sh)), (s2, .inl (cI, 8, .inl sm))] := hD
  refine lv_aload_n hx hb dX1_take_23 rfl (lv_at hl 0 rfl) ?_
  refine lv_iload_n hx hb dX1_take_24 rfl (lv_at hl 2 rfl) ?_
  refine va_put (D := D) (ci := 1) (v := .int lo) (ty := .int) (C := RX1) (T := TX1) (N := 5) hx hb hts hin_X1 tyX1 tyX1_ok nmX1 hown hK hP hD hS 0 rfl rfl 3 (by decide) w_6 (fun _ h9 => h9) rfl (by decide +kernel) rfl rfl (Nat.le_of_ble_eq_true rfl) dX1_take_25 (fun H locs hP hD hS => ?_)
  have hP : va_P D vwCl [(i0, .inr (1, [.ref i1, .ref i2, .int wd, .int lo, .int (bb ik)])), (i1, .inl (cI, 8, .inl rf)), (i2, .inr (4, [.ref j1, .ref j2, .int (nI jn)])), (j1, .inl (cI, 8, .inl jh)), (j2, .inl (cI, 8, .inl jm)), (o0, .inr (7, [.ref o1, .ref o2, .ref o3, .ref o4, .ref o5, .ref o6, .int (nI n), .int (nI k), .int wd, .int (bb wt)])), (o1, .inl (cI, 8, .inl xs)), (o2, .inl (cI, 8, .inl ys)), (o3, .inl (cI, 8, .inl rf)), (o4, .inl (cI, 8, .inl bo)), (o5, .inl (cI, 4, .inl pr)), (o6, .inl (cI, 4, .inl bu)), (s0, .inr (4, [.ref s1, .ref s2, .int (nI sn)])), (s1, .inl (cI, 8, .inl sh)), (s2, .inl (cI, 8, .inl sm))] H := hP
  have hD : va_D A [(i0, .inr (1, [.ref i1, .ref i2, .int wd, .int lo, .int (bb ik)])), (i1, .inl (cI, 8, .inl rf)), (i2, .inr (4, [.ref j1, .ref j2, .int (nI jn)])), (j1, .inl (cI, 8, .inl jh)), (j2, .inl (cI, 8, .inl jm)), (o0, .inr (7, [.ref o1, .ref o2, .ref o3, .ref o4, .ref o5, .ref o6, .int (nI n), .int (nI k), .int wd, .int (bb wt)])), (o1, .inl (cI, 8, .inl xs)), (o2, .inl (cI, 8, .inl ys)), (o3, .inl (cI, 8, .inl rf)), (o4, .inl (cI, 8, .inl bo)), (o5, .inl (cI, 4, .inl pr)), (o6, .inl (cI, 4, .inl bu)), (s0, .inr (4, [.ref s1, .ref s2, .int (nI sn)])), (s1, .inl (cI, 8, .inl sh)), (s2, .inl (cI, 8, .inl sm))] := hD
  refine lv_aload_n hx hb dX1_take_28 rfl (lv_at hl 0 rfl) ?_
  refine va_get (D := D) (ci := 1) (v := .ref i2) (C := RX1) (T := TX1) (N := 5) hx hb hts hin_X1 hown hK hP 0 rfl rfl 1 (by decide) w_7 (fun _ h9 => h9) rfl dX1_take_29 ?_
  refine lv_aload_n hx hb dX1_take_32 rfl (lv_at hl 3 rfl) ?_
  refine xcV_v (As := [.ref s0]) (rest := []) (wc := [(i2, .inr (4, [.ref j1, .ref j2, .int (nI jn)])), (j1, .inl (cI, 8, .inl jh)), (j2, .inl (cI, 8, .inl jm)), (s0, .inr (4, [.ref s1, .ref s2, .int (nI sn)])), (s1, .inl (cI, 8, .inl sh)), (s2, .inl (cI, 8, .inl sm))]) (wr := [(i0, .inr (1, [.ref i1, .ref i2, .int wd, .int lo, .int (bb ik)])), (i1, .inl (cI, 8, .inl rf)), (o0, .inr (7, [.ref o1, .ref o2, .ref o3, .ref o4, .ref o5, .ref o6, .int (nI n), .int (nI k), .int wd, .int (bb wt)])), (o1, .inl (cI, 8, .inl xs)), (o2, .inl (cI, 8, .inl ys)), (o3, .inl (cI, 8, .inl rf)), (o4, .inl (cI, 8, .inl bo)), (o5, .inl (cI, 4, .inl pr)), (o6, .inl (cI, 4, .inl bu))]) (w3 := fun (u : Unit) => [(i0, .inr (1, [.ref i1, .ref i2, .int wd, .int lo, .int (bb ik)])), (i1, .inl (cI, 8, .inl rf)), (i2, .inr (4, [.ref j1, .ref j2, .int (nI sn)])), (j1, .inl (cI, 8, .inl sh)), (j2, .inl (cI, 8, .inl sm)), (o0, .inr (7, [.ref o1, .ref o2, .ref o3, .ref o4, .ref o5, .ref o6, .int (nI n), .int (nI k), .int wd, .int (bb wt)])), (o1, .inl (cI, 8, .inl xs)), (o2, .inl (cI, 8, .inl ys)), (o3, .inl (cI, 8, .inl rf)), (o4, .inl (cI, 8, .inl bo)), (o5, .inl (cI, 4, .inl pr)), (o6, .inl (cI, 4, .inl bu)), (s0, .inr (4, [.ref s1, .ref s2, .int (nI sn)])), (s1, .inl (cI, 8, .inl sh)), (s2, .inl (cI, 8, .inl sm))]) ⟨hx, hb, hml, hown, hts⟩ (c_X5_copyOf l D cI cZ cO H.size i2 j1 j2 jn jh jm s0 s1 s2 sn sh sm ) (cwV 1 hts gX1_take_X5_copyOf rfl rfl rfl (by decide +kernel) ⟨Nat.le_of_ble_eq_true rfl, Nat.le_of_ble_eq_true rfl⟩) (xGdc gR gD gK gV) xGd0 (fun _ _ _ _ => trivial) hG hP hD hK hS hA [2, 3, 4, 12, 13, 14] [0, 1, 5, 6, 7, 8, 9, 10, 11] [0, 1, 9, 10, 11, 2, 3, 4, 5, 6, 7, 8, 12, 13, 14] rfl rfl rfl rfl rfl 2 rfl rfl rfl (fun _ => rfl) rfl rfl hl.1 (Nat.le_of_ble_eq_true rfl) dX1_take_33 ⟨Nat.zero_le _, Nat.zero_le _⟩ (fun u H locs hw hP hD hS => ?_)
  have hw_33 : True := hw
  have hP : va_P D vwCl [(i0, .inr (1, [.ref i1, .ref i2, .int wd, .int lo, .int (bb ik)])), (i1, .inl (cI, 8, .inl rf)), (i2, .inr (4, [.ref j1, .ref j2, .int (nI sn)])), (j1, .inl (cI, 8, .inl sh)), (j2, .inl (cI, 8, .inl sm)), (o0, .inr (7, [.ref o1, .ref o2, .ref o3, .ref o4, .ref o5, .ref o6, .int (nI n), .int (nI k), .int wd, .int (bb wt)])), (o1, .inl (cI, 8, .inl xs)), (o2, .inl (cI, 8, .inl ys)), (o3, .inl (cI, 8, .inl rf)), (o4, .inl (cI, 8, .inl bo)), (o5, .inl (cI, 4, .inl pr)), (o6, .inl (cI, 4, .inl bu)), (s0, .inr (4, [.ref s1, .ref s2, .int (nI sn)])), (s1, .inl (cI, 8, .inl sh)), (s2, .inl (cI, 8, .inl sm))] H := hP
  have hD : va_D A [(i0, .inr (1, [.ref i1, .ref i2, .int wd, .int lo, .int (bb ik)])), (i1, .inl (cI, 8, .inl rf)), (i2, .inr (4, [.ref j1, .ref j2, .int (nI sn)])), (j1, .inl (cI, 8, .inl sh)), (j2, .inl (cI, 8, .inl sm)), (o0, .inr (7, [.ref o1, .ref o2, .ref o3, .ref o4, .ref o5, .ref o6, .int (nI n), .int (nI k), .int wd, .int (bb wt)])), (o1, .inl (cI, 8, .inl xs)), (o2, .inl (cI, 8, .inl ys)), (o3, .inl (cI, 8, .inl rf)), (o4, .inl (cI, 8, .inl bo)), (o5, .inl (cI, 4, .inl pr)), (o6, .inl (cI, 4, .inl bu)), (s0, .inr (4, [.ref s1, .ref s2, .int (nI sn)])), (s1, .inl (cI, 8, .inl sh)), (s2, .inl (cI, 8, .inl sm))] := hD
  refine lv_aload_n hx hb dX1_take_36 rfl (lv_at hl 0 rfl) ?_
  refine lv_iconst (v := (1 : Int32)) hx hb dX1_take_37 (by decide) ?_
  refine va_put (D := D) (ci := 1) (v := .int (1 : Int32)) (ty := .boolean) (C := RX1) (T := TX1) (N := 5) hx hb hts hin_X1 tyX1 tyX1_ok nmX1 hown hK hP hD hS 0 rfl rfl 4 (by decide) w_8 (fun _ h9 => h9) rfl (by decide +kernel) rfl rfl (Nat.le_of_ble_eq_true rfl) dX1_take_38 (fun H locs hP hD hS => ?_)
  have hP : va_P D vwCl [(i0, .inr (1, [.ref i1, .ref i2, .int wd, .int lo, .int (1 : Int32)])), (i1, .inl (cI, 8, .inl rf)), (i2, .inr (4, [.ref j1, .ref j2, .int (nI sn)])), (j1, .inl (cI, 8, .inl sh)), (j2, .inl (cI, 8, .inl sm)), (o0, .inr (7, [.ref o1, .ref o2, .ref o3, .ref o4, .ref o5, .ref o6, .int (nI n), .int (nI k), .int wd, .int (bb wt)])), (o1, .inl (cI, 8, .inl xs)), (o2, .inl (cI, 8, .inl ys)), (o3, .inl (cI, 8, .inl rf)), (o4, .inl (cI, 8, .inl bo)), (o5, .inl (cI, 4, .inl pr)), (o6, .inl (cI, 4, .inl bu)), (s0, .inr (4, [.ref s1, .ref s2, .int (nI sn)])), (s1, .inl (cI, 8, .inl sh)), (s2, .inl (cI, 8, .inl sm))] H := hP
  have hD : va_D A [(i0, .inr (1, [.ref i1, .ref i2, .int wd, .int lo, .int (1 : Int32)])), (i1, .inl (cI, 8, .inl rf)), (i2, .inr (4, [.ref j1, .ref j2, .int (nI sn)])), (j1, .inl (cI, 8, .inl sh)), (j2, .inl (cI, 8, .inl sm)), (o0, .inr (7, [.ref o1, .ref o2, .ref o3, .ref o4, .ref o5, .ref o6, .int (nI n), .int (nI k), .int wd, .int (bb wt)])), (o1, .inl (cI, 8, .inl xs)), (o2, .inl (cI, 8, .inl ys)), (o3, .inl (cI, 8, .inl rf)), (o4, .inl (cI, 8, .inl bo)), (o5, .inl (cI, 4, .inl pr)), (o6, .inl (cI, 4, .inl bu)), (s0, .inr (4, [.ref s1, .ref s2, .int (nI sn)])), (s1, .inl (cI, 8, .inl sh)), (s2, .inl (cI, 8, .inl sm))] := hD
  exact hret () _ _ _ _ (trivial) hP hD hS dX1_take_41

set_option maxHeartbeats 4000000 in
set_option maxRecDepth 100000 in
theorem c_X1_giveBack (l : Launch) (D : va_G) (cI cZ cO : ClassId) (sz : Nat) (gR : Nat) (gD : Nat) (gK : Nat → Nat) (gV : Nat → Nat) (i0 : Nat) (i1 : Nat) (iw : Int32) (il : Int32) (ik : Bool) (ir : Nat → Int32) (i2 : Nat) (j1 : Nat) (j2 : Nat) (jn : Nat) (jh : Nat → Int32) (jm : Nat → Int32) (o0 : Nat) (o1 : Nat) (o2 : Nat) (o3 : Nat) (o4 : Nat) (o5 : Nat) (o6 : Nat) (xs : Nat → Int32) (ys : Nat → Int32) (rf : Nat → Int32) (bo : Nat → Int32) (pr : Nat → Int32) (bu : Nat → Int32) (n : Nat) (k : Nat) (wd : Int32) (wt : Bool) (s0 : Nat) (s1 : Nat) (s2 : Nat) (sn : Nat) (sh : Nat → Int32) (sm : Nat → Int32)  : xMv l yX1_giveBack wsX1_giveBack (2) (65) D (TY cI cZ cO) (xGc gR gD gK gV) [.ref i0, .ref o0, .ref s0] [(i0, .inr (1, [.ref i1, .ref i2, .int iw, .int il, .int (bb ik)])), (i1, .inl (cI, 8, .inl ir)), (i2, .inr (4, [.ref j1, .ref j2, .int (nI jn)])), (j1, .inl (cI, 8, .inl jh)), (j2, .inl (cI, 8, .inl jm)), (o0, .inr (7, [.ref o1, .ref o2, .ref o3, .ref o4, .ref o5, .ref o6, .int (nI n), .int (nI k), .int wd, .int (bb wt)])), (o1, .inl (cI, 8, .inl xs)), (o2, .inl (cI, 8, .inl ys)), (o3, .inl (cI, 8, .inl rf)), (o4, .inl (cI, 8, .inl bo)), (o5, .inl (cI, 4, .inl pr)), (o6, .inl (cI, 4, .inl bu)), (s0, .inr (4, [.ref s1, .ref s2, .int (nI sn)])), (s1, .inl (cI, 8, .inl sh)), (s2, .inl (cI, 8, .inl sm))] sz (fun (u : Unit) => (True)) (fun (u : Unit) => [(i0, .inr (1, [.ref i1, .ref i2, .int iw, .int il, .int (bb ik)])), (i1, .inl (cI, 8, .inl ir)), (i2, .inr (4, [.ref j1, .ref j2, .int (nI jn)])), (j1, .inl (cI, 8, .inl jh)), (j2, .inl (cI, 8, .inl jm)), (o0, .inr (7, [.ref o1, .ref o2, .ref o3, .ref o4, .ref o5, .ref o6, .int (nI n), .int (nI k), .int iw, .int (bb wt)])), (o1, .inl (cI, 8, .inl xs)), (o2, .inl (cI, 8, .inl ys)), (o3, .inl (cI, 8, .inl ir)), (o4, .inl (cI, 8, .inl bo)), (o5, .inl (cI, 4, .inl pr)), (o6, .inl (cI, 4, .inl bu)), (s0, .inr (4, [.ref s1, .ref s2, .int (nI jn)])), (s1, .inl (cI, 8, .inl jh)), (s2, .inl (cI, 8, .inl jm))]) := by
  refine xMv.of (cc := cX1_giveBack) (maxL := 3) (by decide +kernel) rfl (Nat.le_of_ble_eq_true rfl) ?_
  intro p e s m below meth c A Q H hx hb hml hown hts hA hP hD hK hS hG hret ls hl
  have hown : s.vm.findClass RX1 = some m.cls := hown
  have hP : va_P D vwCl [(i0, .inr (1, [.ref i1, .ref i2, .int iw, .int il, .int (bb ik)])), (i1, .inl (cI, 8, .inl ir)), (i2, .inr (4, [.ref j1, .ref j2, .int (nI jn)])), (j1, .inl (cI, 8, .inl jh)), (j2, .inl (cI, 8, .inl jm)), (o0, .inr (7, [.ref o1, .ref o2, .ref o3, .ref o4, .ref o5, .ref o6, .int (nI n), .int (nI k), .int wd, .int (bb wt)])), (o1, .inl (cI, 8, .inl xs)), (o2, .inl (cI, 8, .inl ys)), (o3, .inl (cI, 8, .inl rf)), (o4, .inl (cI, 8, .inl bo)), (o5, .inl (cI, 4, .inl pr)), (o6, .inl (cI, 4, .inl bu)), (s0, .inr (4, [.ref s1, .ref s2, .int (nI sn)])), (s1, .inl (cI, 8, .inl sh)), (s2, .inl (cI, 8, .inl sm))] H := hP
  have hD : va_D A [(i0, .inr (1, [.ref i1, .ref i2, .int iw, .int il, .int (bb ik)])), (i1, .inl (cI, 8, .inl ir)), (i2, .inr (4, [.ref j1, .ref j2, .int (nI jn)])), (j1, .inl (cI, 8, .inl jh)), (j2, .inl (cI, 8, .inl jm)), (o0, .inr (7, [.ref o1, .ref o2, .ref o3, .ref o4, .ref o5, .ref o6, .int (nI n), .int (nI k), .int wd, .int (bb wt)])), (o1, .inl (cI, 8, .inl xs)), (o2, .inl (cI, 8, .inl ys)), (o3, .inl (cI, 8, .inl rf)), (o4, .inl (cI, 8, .inl bo)), (o5, .inl (cI, 4, .inl pr)), (o6, .inl (cI, 4, .inl bu)), (s0, .inr (4, [.ref s1, .ref s2, .int (nI sn)])), (s1, .inl (cI, 8, .inl sh)), (s2, .inl (cI, 8, .inl sm))] := hD
  have hl : lv_has ls 3 [(0, .ref i0), (1, .ref o0), (2, .ref s0)] := hl
  have w_0 := hts (.fieldLink RX1 9 "UnlikeRoofs$Image" "roofs" "[I") (List.mem_of_getElem? (i := 1) (by rfl))
  have w_1 := hts (.methodLink RX1 25 arraycopyName) (List.mem_of_getElem? (i := 2) (by rfl))
  have w_2 := hts (.native arraycopyName) (List.mem_of_getElem? (i := 3) (by rfl))
  have w_3 := hts (.static arraycopyName) (List.mem_of_getElem? (i := 4) (by rfl))
  have w_4 := hts (.initialized "java/lang/System") (List.mem_of_getElem? (i := 5) (by rfl))
  have w_5 := hts (.fieldLink RX1 35 "UnlikeRoofs$Image" "blowing" "I") (List.mem_of_getElem? (i := 6) (by rfl))
  have w_6 := hts (.fieldLink RX1 18 "UnlikeRoofs$Image" "seen" "LUnlikeRoofs$Seen;") (List.mem_of_getElem? (i := 7) (by rfl))
  have wn_0 : (Cond.fieldLinkNest RX1 22 "UnlikeRoofs$Town" "roofs" "[I" "UnlikeRoofs").before ([.ref i0, .ref o0, .ref s0] : List Value).toArray s = true := va_Nw.use rfl (hG.1 (.fieldLinkNest RX1 22 "UnlikeRoofs$Town" "roofs" "[I" "UnlikeRoofs") (List.mem_of_getElem? (i := 11) (by rfl)))
  have wn_1 : (Cond.fieldLinkNest RX1 31 "UnlikeRoofs$Town" "blowing" "I" "UnlikeRoofs").before ([.ref i0, .ref o0, .ref s0] : List Value).toArray s = true := va_Nw.use rfl (hG.1 (.fieldLinkNest RX1 31 "UnlikeRoofs$Town" "blowing" "I" "UnlikeRoofs") (List.mem_of_getElem? (i := 26) (by rfl)))
  have hin_X1 : ∀ w ∈ wsX10, w ∈ wsX1_giveBack := fun _ h => List.mem_cons_of_mem _ (List.mem_append_left _ (List.mem_append_left _ (List.mem_append_right _ h)))
  have hin_X8 : ∀ w ∈ wsX80, w ∈ wsX1_giveBack := fun _ h => List.mem_cons_of_mem _ (List.mem_append_left _ (List.mem_append_right _ h))
  have _h0 : True := trivial
  refine lv_aload_n hx hb dX1_giveBack_0 rfl (lv_at hl 0 rfl) ?_
  refine va_get (D := D) (ci := 1) (v := .ref i1) (C := RX1) (T := TX1) (N := 5) hx hb hts hin_X1 hown hK hP 0 rfl rfl 0 (by decide) w_0 (fun _ h9 => h9) rfl dX1_giveBack_1 ?_
  refine lv_iconst (v := (0 : Int32)) hx hb dX1_giveBack_4 (by decide) ?_
  refine lv_aload_n hx hb dX1_giveBack_5 rfl (lv_at hl 1 rfl) ?_
  refine va_getN (D := D) (ci := 7) (v := .ref o3) (C := RX8) (T := TX8) (N := 10) hx hb hts hin_X8 hown hK hP 5 rfl rfl 2 (by decide) wn_0 (fun _ h9 => h9) rfl dX1_giveBack_6 ?_
  refine lv_iconst (v := (0 : Int32)) hx hb dX1_giveBack_9 (by decide) ?_
  refine lv_bipush (v := (8 : Int32)) hx hb dX1_giveBack_10 (by decide) ?_
  refine x_copy8 hx hb (hml.trans hl.1.symm) hown w_1 w_2 w_3 w_4 hK hP hD hS 1 8 0 rfl rfl rfl (Nat.le_of_ble_eq_true rfl) (Nat.le_of_ble_eq_true rfl) dX1_giveBack_12 (fun H locs hP hD hS => ?_)
  have hP : va_P D vwCl [(i0, .inr (1, [.ref i1, .ref i2, .int iw, .int il, .int (bb ik)])), (i1, .inl (cI, 8, .inl ir)), (i2, .inr (4, [.ref j1, .ref j2, .int (nI jn)])), (j1, .inl (cI, 8, .inl jh)), (j2, .inl (cI, 8, .inl jm)), (o0, .inr (7, [.ref o1, .ref o2, .ref o3, .ref o4, .ref o5, .ref o6, .int (nI n), .int (nI k), .int wd, .int (bb wt)])), (o1, .inl (cI, 8, .inl xs)), (o2, .inl (cI, 8, .inl ys)), (o3, .inl (cI, 8, .inl ir)), (o4, .inl (cI, 8, .inl bo)), (o5, .inl (cI, 4, .inl pr)), (o6, .inl (cI, 4, .inl bu)), (s0, .inr (4, [.ref s1, .ref s2, .int (nI sn)])), (s1, .inl (cI, 8, .inl sh)), (s2, .inl (cI, 8, .inl sm))] H := hP
  have hD : va_D A [(i0, .inr (1, [.ref i1, .ref i2, .int iw, .int il, .int (bb ik)])), (i1, .inl (cI, 8, .inl ir)), (i2, .inr (4, [.ref j1, .ref j2, .int (nI jn)])), (j1, .inl (cI, 8, .inl jh)), (j2, .inl (cI, 8, .inl jm)), (o0, .inr (7, [.ref o1, .ref o2, .ref o3, .ref o4, .ref o5, .ref o6, .int (nI n), .int (nI k), .int wd, .int (bb wt)])), (o1, .inl (cI, 8, .inl xs)), (o2, .inl (cI, 8, .inl ys)), (o3, .inl (cI, 8, .inl ir)), (o4, .inl (cI, 8, .inl bo)), (o5, .inl (cI, 4, .inl pr)), (o6, .inl (cI, 4, .inl bu)), (s0, .inr (4, [.ref s1, .ref s2, .int (nI sn)])), (s1, .inl (cI, 8, .inl sh)), (s2, .inl (cI, 8, .inl sm))] := hD
  refine lv_aload_n hx hb dX1_giveBack_15 rfl (lv_at hl 1 rfl) ?_
  refine lv_aload_n hx hb dX1_giveBack_16 rfl (lv_at hl 0 rfl) ?_
  refine va_get (D := D) (ci := 1) (v := .int iw) (C := RX1) (T := TX1) (N := 5) hx hb hts hin_X1 hown hK hP 0 rfl rfl 2 (by decide) w_5 (fun _ h9 => h9) rfl dX1_giveBack_17 ?_
  refine va_putN (D := D) (ci := 7) (v := .int iw) (ty := .int) (C := RX8) (T := TX8) (N := 10) hx hb hts hin_X8 tyX8 tyX8_ok nmX8 hown hK hP hD hS 5 rfl rfl 8 (by decide) wn_1 (fun _ h9 => h9) rfl (by decide +kernel) rfl rfl (Nat.le_of_ble_eq_true rfl) dX1_giveBack_20 (fun H locs hP hD hS => ?_)
  have hP : va_P D vwCl [(i0, .inr (1, [.ref i1, .ref i2, .int iw, .int il, .int (bb ik)])), (i1, .inl (cI, 8, .inl ir)), (i2, .inr (4, [.ref j1, .ref j2, .int (nI jn)])), (j1, .inl (cI, 8, .inl jh)), (j2, .inl (cI, 8, .inl jm)), (o0, .inr (7, [.ref o1, .ref o2, .ref o3, .ref o4, .ref o5, .ref o6, .int (nI n), .int (nI k), .int iw, .int (bb wt)])), (o1, .inl (cI, 8, .inl xs)), (o2, .inl (cI, 8, .inl ys)), (o3, .inl (cI, 8, .inl ir)), (o4, .inl (cI, 8, .inl bo)), (o5, .inl (cI, 4, .inl pr)), (o6, .inl (cI, 4, .inl bu)), (s0, .inr (4, [.ref s1, .ref s2, .int (nI sn)])), (s1, .inl (cI, 8, .inl sh)), (s2, .inl (cI, 8, .inl sm))] H := hP
  have hD : va_D A [(i0, .inr (1, [.ref i1, .ref i2, .int iw, .int il, .int (bb ik)])), (i1, .inl (cI, 8, .inl ir)), (i2, .inr (4, [.ref j1, .ref j2, .int (nI jn)])), (j1, .inl (cI, 8, .inl jh)), (j2, .inl (cI, 8, .inl jm)), (o0, .inr (7, [.ref o1, .ref o2, .ref o3, .ref o4, .ref o5, .ref o6, .int (nI n), .int (nI k), .int iw, .int (bb wt)])), (o1, .inl (cI, 8, .inl xs)), (o2, .inl (cI, 8, .inl ys)), (o3, .inl (cI, 8, .inl ir)), (o4, .inl (cI, 8, .inl bo)), (o5, .inl (cI, 4, .inl pr)), (o6, .inl (cI, 4, .inl bu)), (s0, .inr (4, [.ref s1, .ref s2, .int (nI sn)])), (s1, .inl (cI, 8, .inl sh)), (s2, .inl (cI, 8, .inl sm))] := hD
  refine lv_aload_n hx hb dX1_giveBack_23 rfl (lv_at hl 2 rfl) ?_
  refine lv_aload_n hx hb dX1_giveBack_24 rfl (lv_at hl 0 rfl) ?_
  refine va_get (D := D) (ci := 1) (v := .ref i2) (C := RX1) (T := TX1) (N := 5) hx hb hts hin_X1 hown hK hP 0 rfl rfl 1 (by decide) w_6 (fun _ h9 => h9) rfl dX1_giveBack_25 ?_
  refine xcV_v (As := [.ref i2]) (rest := []) (wc := [(s0, .inr (4, [.ref s1, .ref s2, .int (nI sn)])), (s1, .inl (cI, 8, .inl sh)), (s2, .inl (cI, 8, .inl sm)), (i2, .inr (4, [.ref j1, .ref j2, .int (nI jn)])), (j1, .inl (cI, 8, .inl jh)), (j2, .inl (cI, 8, .inl jm))]) (wr := [(i0, .inr (1, [.ref i1, .ref i2, .int iw, .int il, .int (bb ik)])), (i1, .inl (cI, 8, .inl ir)), (o0, .inr (7, [.ref o1, .ref o2, .ref o3, .ref o4, .ref o5, .ref o6, .int (nI n), .int (nI k), .int iw, .int (bb wt)])), (o1, .inl (cI, 8, .inl xs)), (o2, .inl (cI, 8, .inl ys)), (o3, .inl (cI, 8, .inl ir)), (o4, .inl (cI, 8, .inl bo)), (o5, .inl (cI, 4, .inl pr)), (o6, .inl (cI, 4, .inl bu))]) (w3 := fun (u : Unit) => [(i0, .inr (1, [.ref i1, .ref i2, .int iw, .int il, .int (bb ik)])), (i1, .inl (cI, 8, .inl ir)), (i2, .inr (4, [.ref j1, .ref j2, .int (nI jn)])), (j1, .inl (cI, 8, .inl jh)), (j2, .inl (cI, 8, .inl jm)), (o0, .inr (7, [.ref o1, .ref o2, .ref o3, .ref o4, .ref o5, .ref o6, .int (nI n), .int (nI k), .int iw, .int (bb wt)])), (o1, .inl (cI, 8, .inl xs)), (o2, .inl (cI, 8, .inl ys)), (o3, .inl (cI, 8, .inl ir)), (o4, .inl (cI, 8, .inl bo)), (o5, .inl (cI, 4, .inl pr)), (o6, .inl (cI, 4, .inl bu)), (s0, .inr (4, [.ref s1, .ref s2, .int (nI jn)])), (s1, .inl (cI, 8, .inl jh)), (s2, .inl (cI, 8, .inl jm))]) ⟨hx, hb, hml, hown, hts⟩ (c_X5_copyOf l D cI cZ cO H.size s0 s1 s2 sn sh sm i2 j1 j2 jn jh jm ) (cwV 1 hts gX1_giveBack_X5_copyOf rfl rfl rfl (by decide +kernel) ⟨Nat.le_of_ble_eq_true rfl, Nat.le_of_ble_eq_true rfl⟩) (xGdc gR gD gK gV) xGd0 (fun _ _ _ _ => trivial) hG hP hD hK hS hA [12, 13, 14, 2, 3, 4] [0, 1, 5, 6, 7, 8, 9, 10, 11] [0, 1, 12, 13, 14, 2, 3, 4, 5, 6, 7, 8, 9, 10, 11] rfl rfl rfl rfl rfl 12 rfl rfl rfl (fun _ => rfl) rfl rfl hl.1 (Nat.le_of_ble_eq_true rfl) dX1_giveBack_28 ⟨Nat.zero_le _, Nat.zero_le _⟩ (fun u H locs hw hP hD hS => ?_)
  have hw_28 : True := hw
  have hP : va_P D vwCl [(i0, .inr (1, [.ref i1, .ref i2, .int iw, .int il, .int (bb ik)])), (i1, .inl (cI, 8, .inl ir)), (i2, .inr (4, [.ref j1, .ref j2, .int (nI jn)])), (j1, .inl (cI, 8, .inl jh)), (j2, .inl (cI, 8, .inl jm)), (o0, .inr (7, [.ref o1, .ref o2, .ref o3, .ref o4, .ref o5, .ref o6, .int (nI n), .int (nI k), .int iw, .int (bb wt)])), (o1, .inl (cI, 8, .inl xs)), (o2, .inl (cI, 8, .inl ys)), (o3, .inl (cI, 8, .inl ir)), (o4, .inl (cI, 8, .inl bo)), (o5, .inl (cI, 4, .inl pr)), (o6, .inl (cI, 4, .inl bu)), (s0, .inr (4, [.ref s1, .ref s2, .int (nI jn)])), (s1, .inl (cI, 8, .inl jh)), (s2, .inl (cI, 8, .inl jm))] H := hP
  have hD : va_D A [(i0, .inr (1, [.ref i1, .ref i2, .int iw, .int il, .int (bb ik)])), (i1, .inl (cI, 8, .inl ir)), (i2, .inr (4, [.ref j1, .ref j2, .int (nI jn)])), (j1, .inl (cI, 8, .inl jh)), (j2, .inl (cI, 8, .inl jm)), (o0, .inr (7, [.ref o1, .ref o2, .ref o3, .ref o4, .ref o5, .ref o6, .int (nI n), .int (nI k), .int iw, .int (bb wt)])), (o1, .inl (cI, 8, .inl xs)), (o2, .inl (cI, 8, .inl ys)), (o3, .inl (cI, 8, .inl ir)), (o4, .inl (cI, 8, .inl bo)), (o5, .inl (cI, 4, .inl pr)), (o6, .inl (cI, 4, .inl bu)), (s0, .inr (4, [.ref s1, .ref s2, .int (nI jn)])), (s1, .inl (cI, 8, .inl jh)), (s2, .inl (cI, 8, .inl jm))] := hD
  exact hret () _ _ _ _ (trivial) hP hD hS dX1_giveBack_31

set_option maxHeartbeats 4000000 in
set_option maxRecDepth 100000 in
theorem c_X2_plain (l : Launch) (D : va_G) (cI cZ cO : ClassId) (sz : Nat) (gR : Nat) (gD : Nat) (gK : Nat → Nat) (gV : Nat → Nat) (r0 : Nat) (as_ : Int64) (o0 : Nat) (o1 : Nat) (o2 : Nat) (o3 : Nat) (o4 : Nat) (o5 : Nat) (o6 : Nat) (xs : Nat → Int32) (ys : Nat → Int32) (rf : Nat → Int32) (bo : Nat → Int32) (pr : Nat → Int32) (bu : Nat → Int32) (n : Nat) (k : Nat) (wd : Int32) (wt : Bool) (h : Nat) (hn : n ≤ 8) (hk : k ≤ 4) (hh : h < n) : xMi l yX2_plain wsX2_plain (2) (42) D (TY cI cZ cO) (xGc gR gD gK gV) [.ref r0, .ref o0, .int (nI h)] [(r0, .inr (2, [.long as_])), (o0, .inr (7, [.ref o1, .ref o2, .ref o3, .ref o4, .ref o5, .ref o6, .int (nI n), .int (nI k), .int wd, .int (bb wt)])), (o1, .inl (cI, 8, .inl xs)), (o2, .inl (cI, 8, .inl ys)), (o3, .inl (cI, 8, .inl rf)), (o4, .inl (cI, 8, .inl bo)), (o5, .inl (cI, 4, .inl pr)), (o6, .inl (cI, 4, .inl bu))] sz (fun (rv_ : Int32) (u : Int64) => rv_ = (prOf pr k (rf h)) ∧ (u = as_ + 1)) (fun (u : Int64) => [(r0, .inr (2, [.long u])), (o0, .inr (7, [.ref o1, .ref o2, .ref o3, .ref o4, .ref o5, .ref o6, .int (nI n), .int (nI k), .int wd, .int (bb wt)])), (o1, .inl (cI, 8, .inl xs)), (o2, .inl (cI, 8, .inl ys)), (o3, .inl (cI, 8, .inl rf)), (o4, .inl (cI, 8, .inl bo)), (o5, .inl (cI, 4, .inl pr)), (o6, .inl (cI, 4, .inl bu))]) := by
  refine xMi.of (cc := cX2_plain) (maxL := 3) (by decide +kernel) rfl (Nat.le_of_ble_eq_true rfl) ?_
  intro p e s m below meth c A Q H hx hb hml hown hts hA hP hD hK hS hG hret ls hl
  have hown : s.vm.findClass RX2 = some m.cls := hown
  have hP : va_P D vwCl [(r0, .inr (2, [.long as_])), (o0, .inr (7, [.ref o1, .ref o2, .ref o3, .ref o4, .ref o5, .ref o6, .int (nI n), .int (nI k), .int wd, .int (bb wt)])), (o1, .inl (cI, 8, .inl xs)), (o2, .inl (cI, 8, .inl ys)), (o3, .inl (cI, 8, .inl rf)), (o4, .inl (cI, 8, .inl bo)), (o5, .inl (cI, 4, .inl pr)), (o6, .inl (cI, 4, .inl bu))] H := hP
  have hD : va_D A [(r0, .inr (2, [.long as_])), (o0, .inr (7, [.ref o1, .ref o2, .ref o3, .ref o4, .ref o5, .ref o6, .int (nI n), .int (nI k), .int wd, .int (bb wt)])), (o1, .inl (cI, 8, .inl xs)), (o2, .inl (cI, 8, .inl ys)), (o3, .inl (cI, 8, .inl rf)), (o4, .inl (cI, 8, .inl bo)), (o5, .inl (cI, 4, .inl pr)), (o6, .inl (cI, 4, .inl bu))] := hD
  have hl : lv_has ls 3 [(0, .ref r0), (1, .ref o0), (2, .int (nI h))] := hl
  have w_0 := hts (.fieldLink RX2 28 "UnlikeRoofs$Rating" "asked" "J") (List.mem_of_getElem? (i := 1) (by rfl))
  have wn_0 : (Cond.fieldLinkNest RX2 38 "UnlikeRoofs$Town" "roofs" "[I" "UnlikeRoofs").before ([.ref r0, .ref o0, .int (nI h)] : List Value).toArray s = true := va_Nw.use rfl (hG.1 (.fieldLinkNest RX2 38 "UnlikeRoofs$Town" "roofs" "[I" "UnlikeRoofs") (List.mem_of_getElem? (i := 13) (by rfl)))
  have hin_X2 : ∀ w ∈ wsX20, w ∈ wsX2_plain := fun _ h => List.mem_cons_of_mem _ (List.mem_append_left _ (List.mem_append_right _ h))
  have hin_X8 : ∀ w ∈ wsX80, w ∈ wsX2_plain := fun _ h => List.mem_cons_of_mem _ (List.mem_append_right _ h)
  have _h0 : True := trivial
  refine lv_aload_n hx hb dX2_plain_0 rfl (lv_at hl 0 rfl) ?_
  refine lv_dup hx hb dX2_plain_1 rfl ?_
  refine va_get (D := D) (ci := 2) (v := .long as_) (C := RX2) (T := TX2) (N := 1) hx hb hts hin_X2 hown hK hP 0 rfl rfl 0 (by decide) w_0 (fun _ h9 => h9) rfl dX2_plain_2 ?_
  refine lv_lconst (v := 1) hx hb dX2_plain_5 (by decide) ?_
  refine lv_ladd hx hb dX2_plain_6 ?_
  refine va_put (D := D) (ci := 2) (v := .long (as_ + 1)) (ty := .long) (C := RX2) (T := TX2) (N := 1) hx hb hts hin_X2 tyX2 tyX2_ok nmX2 hown hK hP hD hS 0 rfl rfl 0 (by decide) w_0 (fun _ h9 => h9) rfl (by decide +kernel) rfl rfl (Nat.le_of_ble_eq_true rfl) dX2_plain_7 (fun H locs hP hD hS => ?_)
  have hP : va_P D vwCl [(r0, .inr (2, [.long (as_ + 1)])), (o0, .inr (7, [.ref o1, .ref o2, .ref o3, .ref o4, .ref o5, .ref o6, .int (nI n), .int (nI k), .int wd, .int (bb wt)])), (o1, .inl (cI, 8, .inl xs)), (o2, .inl (cI, 8, .inl ys)), (o3, .inl (cI, 8, .inl rf)), (o4, .inl (cI, 8, .inl bo)), (o5, .inl (cI, 4, .inl pr)), (o6, .inl (cI, 4, .inl bu))] H := hP
  have hD : va_D A [(r0, .inr (2, [.long (as_ + 1)])), (o0, .inr (7, [.ref o1, .ref o2, .ref o3, .ref o4, .ref o5, .ref o6, .int (nI n), .int (nI k), .int wd, .int (bb wt)])), (o1, .inl (cI, 8, .inl xs)), (o2, .inl (cI, 8, .inl ys)), (o3, .inl (cI, 8, .inl rf)), (o4, .inl (cI, 8, .inl bo)), (o5, .inl (cI, 4, .inl pr)), (o6, .inl (cI, 4, .inl bu))] := hD
  refine lv_aload_n hx hb dX2_plain_10 rfl (lv_at hl 1 rfl) ?_
  refine lv_iload_n hx hb dX2_plain_11 rfl (lv_at hl 2 rfl) ?_
  refine xcV_i (As := [.int (nI h)]) (rest := []) (wc := [(o0, .inr (7, [.ref o1, .ref o2, .ref o3, .ref o4, .ref o5, .ref o6, .int (nI n), .int (nI k), .int wd, .int (bb wt)])), (o1, .inl (cI, 8, .inl xs)), (o2, .inl (cI, 8, .inl ys)), (o3, .inl (cI, 8, .inl rf)), (o4, .inl (cI, 8, .inl bo)), (o5, .inl (cI, 4, .inl pr)), (o6, .inl (cI, 4, .inl bu))]) (wr := [(r0, .inr (2, [.long (as_ + 1)]))]) (w3 := fun (u : Unit) => [(r0, .inr (2, [.long (as_ + 1)])), (o0, .inr (7, [.ref o1, .ref o2, .ref o3, .ref o4, .ref o5, .ref o6, .int (nI n), .int (nI k), .int wd, .int (bb wt)])), (o1, .inl (cI, 8, .inl xs)), (o2, .inl (cI, 8, .inl ys)), (o3, .inl (cI, 8, .inl rf)), (o4, .inl (cI, 8, .inl bo)), (o5, .inl (cI, 4, .inl pr)), (o6, .inl (cI, 4, .inl bu))]) ⟨hx, hb, hml, hown, hts⟩ (c_X8_hasHouse_in l D cI cZ cO H.size o0 o1 o2 o3 o4 o5 o6 xs ys rf bo pr bu n k wd wt h (by first | assumption | omega | rfl) (by first | assumption | omega | rfl)) (cwV 1 hts gX2_plain_X8_hasHouse rfl rfl rfl (by decide +kernel) ⟨Nat.le_of_ble_eq_true rfl, Nat.le_of_ble_eq_true rfl⟩) (xGdc gR gD gK gV) xGd0 (fun _ _ _ _ => trivial) hG hP hD hK hS hA [1, 2, 3, 4, 5, 6, 7] [0] [0, 1, 2, 3, 4, 5, 6, 7] rfl rfl rfl rfl rfl 1 rfl rfl rfl (fun _ => rfl) rfl rfl hl.1 (Nat.le_of_ble_eq_true rfl) dX2_plain_12 ⟨Nat.zero_le _, Nat.zero_le _⟩ (fun r u H locs hw hP hD hS => ?_)
  obtain ⟨rfl, hw⟩ := hw
  have hw_12 : True := hw
  have hP : va_P D vwCl [(r0, .inr (2, [.long (as_ + 1)])), (o0, .inr (7, [.ref o1, .ref o2, .ref o3, .ref o4, .ref o5, .ref o6, .int (nI n), .int (nI k), .int wd, .int (bb wt)])), (o1, .inl (cI, 8, .inl xs)), (o2, .inl (cI, 8, .inl ys)), (o3, .inl (cI, 8, .inl rf)), (o4, .inl (cI, 8, .inl bo)), (o5, .inl (cI, 4, .inl pr)), (o6, .inl (cI, 4, .inl bu))] H := hP
  have hD : va_D A [(r0, .inr (2, [.long (as_ + 1)])), (o0, .inr (7, [.ref o1, .ref o2, .ref o3, .ref o4, .ref o5, .ref o6, .int (nI n), .int (nI k), .int wd, .int (bb wt)])), (o1, .inl (cI, 8, .inl xs)), (o2, .inl (cI, 8, .inl ys)), (o3, .inl (cI, 8, .inl rf)), (o4, .inl (cI, 8, .inl bo)), (o5, .inl (cI, 4, .inl pr)), (o6, .inl (cI, 4, .inl bu))] := hD
  refine lv_if_eq (tgt := 31) hx hb dX2_plain_15 (by decide) (fun c_15 => ?_) (fun c_15 => ?_)
  ·
    exact absurd c_15 (by decide)
  ·
    refine lv_aload_n hx hb dX2_plain_18 rfl (lv_at hl 1 rfl) ?_
    refine lv_aload_n hx hb dX2_plain_19 rfl (lv_at hl 1 rfl) ?_
    refine va_getN (D := D) (ci := 7) (v := .ref o3) (C := RX8) (T := TX8) (N := 10) hx hb hts hin_X8 hown hK hP 1 rfl rfl 2 (by decide) wn_0 (fun _ h9 => h9) rfl dX2_plain_20 ?_
    refine lv_iload_n hx hb dX2_plain_23 rfl (lv_at hl 2 rfl) ?_
    refine x_iald hx hb hK hP 4 0 rfl rfl (j := h) (by omega) (by decide) dX2_plain_24 ?_
    refine xcV_i (As := [.int (rf h)]) (rest := []) (wc := [(o0, .inr (7, [.ref o1, .ref o2, .ref o3, .ref o4, .ref o5, .ref o6, .int (nI n), .int (nI k), .int wd, .int (bb wt)])), (o1, .inl (cI, 8, .inl xs)), (o2, .inl (cI, 8, .inl ys)), (o3, .inl (cI, 8, .inl rf)), (o4, .inl (cI, 8, .inl bo)), (o5, .inl (cI, 4, .inl pr)), (o6, .inl (cI, 4, .inl bu))]) (wr := [(r0, .inr (2, [.long (as_ + 1)]))]) (w3 := fun (u : Unit) => [(r0, .inr (2, [.long (as_ + 1)])), (o0, .inr (7, [.ref o1, .ref o2, .ref o3, .ref o4, .ref o5, .ref o6, .int (nI n), .int (nI k), .int wd, .int (bb wt)])), (o1, .inl (cI, 8, .inl xs)), (o2, .inl (cI, 8, .inl ys)), (o3, .inl (cI, 8, .inl rf)), (o4, .inl (cI, 8, .inl bo)), (o5, .inl (cI, 4, .inl pr)), (o6, .inl (cI, 4, .inl bu))]) ⟨hx, hb, hml, hown, hts⟩ (c_X8_priceOf l D cI cZ cO H.size o0 o1 o2 o3 o4 o5 o6 xs ys rf bo pr bu n k wd wt (rf h) (by first | assumption | omega | rfl)) (cwV 1 hts gX2_plain_X8_priceOf rfl rfl rfl (by decide +kernel) ⟨Nat.le_of_ble_eq_true rfl, Nat.le_of_ble_eq_true rfl⟩) (xGdc gR gD gK gV) xGd0 (fun _ _ _ _ => trivial) hG hP hD hK hS hA [1, 2, 3, 4, 5, 6, 7] [0] [0, 1, 2, 3, 4, 5, 6, 7] rfl rfl rfl rfl rfl 1 rfl rfl rfl (fun _ => rfl) rfl rfl hl.1 (Nat.le_of_ble_eq_true rfl) dX2_plain_25 ⟨Nat.zero_le _, Nat.zero_le _⟩ (fun r u H locs hw hP hD hS => ?_)
    obtain ⟨rfl, hw⟩ := hw
    have hw_25 : True := hw
    have hP : va_P D vwCl [(r0, .inr (2, [.long (as_ + 1)])), (o0, .inr (7, [.ref o1, .ref o2, .ref o3, .ref o4, .ref o5, .ref o6, .int (nI n), .int (nI k), .int wd, .int (bb wt)])), (o1, .inl (cI, 8, .inl xs)), (o2, .inl (cI, 8, .inl ys)), (o3, .inl (cI, 8, .inl rf)), (o4, .inl (cI, 8, .inl bo)), (o5, .inl (cI, 4, .inl pr)), (o6, .inl (cI, 4, .inl bu))] H := hP
    have hD : va_D A [(r0, .inr (2, [.long (as_ + 1)])), (o0, .inr (7, [.ref o1, .ref o2, .ref o3, .ref o4, .ref o5, .ref o6, .int (nI n), .int (nI k), .int wd, .int (bb wt)])), (o1, .inl (cI, 8, .inl xs)), (o2, .inl (cI, 8, .inl ys)), (o3, .inl (cI, 8, .inl rf)), (o4, .inl (cI, 8, .inl bo)), (o5, .inl (cI, 4, .inl pr)), (o6, .inl (cI, 4, .inl bu))] := hD
    refine lv_goto (tgt := 32) hx hb dX2_plain_28 (by decide) ?_
    exact hret _ (as_ + 1) _ _ _ _ (rfl) (⟨rfl, rfl⟩) hP hD hS dX2_plain_32

set_option maxHeartbeats 4000000 in
set_option maxRecDepth 100000 in
theorem c_X2_straw (l : Launch) (D : va_G) (cI cZ cO : ClassId) (sz : Nat) (gR : Nat) (gD : Nat) (gK : Nat → Nat) (gV : Nat → Nat) (r0 : Nat) (as_ : Int64) (o0 : Nat) (o1 : Nat) (o2 : Nat) (o3 : Nat) (o4 : Nat) (o5 : Nat) (o6 : Nat) (xs : Nat → Int32) (ys : Nat → Int32) (rf : Nat → Int32) (bo : Nat → Int32) (pr : Nat → Int32) (bu : Nat → Int32) (n : Nat) (k : Nat) (wd : Int32) (wt : Bool) (h : Nat) (hn : n ≤ 8) (hk : k ≤ 4) (hh : h < n) : xMi l yX2_straw wsX2_straw (3) (64) D (TY cI cZ cO) (xGc gR gD gK gV) [.ref r0, .ref o0, .int (nI h)] [(r0, .inr (2, [.long as_])), (o0, .inr (7, [.ref o1, .ref o2, .ref o3, .ref o4, .ref o5, .ref o6, .int (nI n), .int (nI k), .int wd, .int (bb wt)])), (o1, .inl (cI, 8, .inl xs)), (o2, .inl (cI, 8, .inl ys)), (o3, .inl (cI, 8, .inl rf)), (o4, .inl (cI, 8, .inl bo)), (o5, .inl (cI, 4, .inl pr)), (o6, .inl (cI, 4, .inl bu))] sz (fun (rv_ : Int32) (u : Int64) => rv_ = ((prOf pr k (rf h)) + prOf bu k (rf h)) ∧ (u = as_ + 11)) (fun (u : Int64) => [(r0, .inr (2, [.long u])), (o0, .inr (7, [.ref o1, .ref o2, .ref o3, .ref o4, .ref o5, .ref o6, .int (nI n), .int (nI k), .int wd, .int (bb wt)])), (o1, .inl (cI, 8, .inl xs)), (o2, .inl (cI, 8, .inl ys)), (o3, .inl (cI, 8, .inl rf)), (o4, .inl (cI, 8, .inl bo)), (o5, .inl (cI, 4, .inl pr)), (o6, .inl (cI, 4, .inl bu))]) := by
  refine xMi.of (cc := cX2_straw) (maxL := 4) (by decide +kernel) rfl (Nat.le_of_ble_eq_true rfl) ?_
  intro p e s m below meth c A Q H hx hb hml hown hts hA hP hD hK hS hG hret ls hl
  have hown : s.vm.findClass RX2 = some m.cls := hown
  have hP : va_P D vwCl [(r0, .inr (2, [.long as_])), (o0, .inr (7, [.ref o1, .ref o2, .ref o3, .ref o4, .ref o5, .ref o6, .int (nI n), .int (nI k), .int wd, .int (bb wt)])), (o1, .inl (cI, 8, .inl xs)), (o2, .inl (cI, 8, .inl ys)), (o3, .inl (cI, 8, .inl rf)), (o4, .inl (cI, 8, .inl bo)), (o5, .inl (cI, 4, .inl pr)), (o6, .inl (cI, 4, .inl bu))] H := hP
  have hD : va_D A [(r0, .inr (2, [.long as_])), (o0, .inr (7, [.ref o1, .ref o2, .ref o3, .ref o4, .ref o5, .ref o6, .int (nI n), .int (nI k), .int wd, .int (bb wt)])), (o1, .inl (cI, 8, .inl xs)), (o2, .inl (cI, 8, .inl ys)), (o3, .inl (cI, 8, .inl rf)), (o4, .inl (cI, 8, .inl bo)), (o5, .inl (cI, 4, .inl pr)), (o6, .inl (cI, 4, .inl bu))] := hD
  have hl : lv_has ls 4 [(0, .ref r0), (1, .ref o0), (2, .int (nI h))] := hl
  have w_0 := hts (.fieldLink RX2 28 "UnlikeRoofs$Rating" "asked" "J") (List.mem_of_getElem? (i := 1) (by rfl))
  have w_1 := hts (.constantLong RX2 46 (10)) (List.mem_of_getElem? (i := 2) (by rfl))
  have wn_0 : (Cond.fieldLinkNest RX2 38 "UnlikeRoofs$Town" "roofs" "[I" "UnlikeRoofs").before ([.ref r0, .ref o0, .int (nI h)] : List Value).toArray s = true := va_Nw.use rfl (hG.1 (.fieldLinkNest RX2 38 "UnlikeRoofs$Town" "roofs" "[I" "UnlikeRoofs") (List.mem_of_getElem? (i := 13) (by rfl)))
  have hin_X2 : ∀ w ∈ wsX20, w ∈ wsX2_straw := fun _ h => List.mem_cons_of_mem _ (List.mem_append_left _ (List.mem_append_right _ h))
  have hin_X8 : ∀ w ∈ wsX80, w ∈ wsX2_straw := fun _ h => List.mem_cons_of_mem _ (List.mem_append_right _ h)
  have _h0 : True := trivial
  refine lv_aload_n hx hb dX2_straw_0 rfl (lv_at hl 0 rfl) ?_
  refine lv_dup hx hb dX2_straw_1 rfl ?_
  refine va_get (D := D) (ci := 2) (v := .long as_) (C := RX2) (T := TX2) (N := 1) hx hb hts hin_X2 hown hK hP 0 rfl rfl 0 (by decide) w_0 (fun _ h9 => h9) rfl dX2_straw_2 ?_
  refine lv_ldc2 hx hb hown w_1 dX2_straw_5 ?_
  refine lv_ladd hx hb dX2_straw_8 ?_
  refine va_put (D := D) (ci := 2) (v := .long (as_ + 10)) (ty := .long) (C := RX2) (T := TX2) (N := 1) hx hb hts hin_X2 tyX2 tyX2_ok nmX2 hown hK hP hD hS 0 rfl rfl 0 (by decide) w_0 (fun _ h9 => h9) rfl (by decide +kernel) rfl rfl (Nat.le_of_ble_eq_true rfl) dX2_straw_9 (fun H locs hP hD hS => ?_)
  have hP : va_P D vwCl [(r0, .inr (2, [.long (as_ + 10)])), (o0, .inr (7, [.ref o1, .ref o2, .ref o3, .ref o4, .ref o5, .ref o6, .int (nI n), .int (nI k), .int wd, .int (bb wt)])), (o1, .inl (cI, 8, .inl xs)), (o2, .inl (cI, 8, .inl ys)), (o3, .inl (cI, 8, .inl rf)), (o4, .inl (cI, 8, .inl bo)), (o5, .inl (cI, 4, .inl pr)), (o6, .inl (cI, 4, .inl bu))] H := hP
  have hD : va_D A [(r0, .inr (2, [.long (as_ + 10)])), (o0, .inr (7, [.ref o1, .ref o2, .ref o3, .ref o4, .ref o5, .ref o6, .int (nI n), .int (nI k), .int wd, .int (bb wt)])), (o1, .inl (cI, 8, .inl xs)), (o2, .inl (cI, 8, .inl ys)), (o3, .inl (cI, 8, .inl rf)), (o4, .inl (cI, 8, .inl bo)), (o5, .inl (cI, 4, .inl pr)), (o6, .inl (cI, 4, .inl bu))] := hD
  refine lv_aload_n hx hb dX2_straw_12 rfl (lv_at hl 1 rfl) ?_
  refine lv_iload_n hx hb dX2_straw_13 rfl (lv_at hl 2 rfl) ?_
  refine xcV_i (As := [.int (nI h)]) (rest := []) (wc := [(o0, .inr (7, [.ref o1, .ref o2, .ref o3, .ref o4, .ref o5, .ref o6, .int (nI n), .int (nI k), .int wd, .int (bb wt)])), (o1, .inl (cI, 8, .inl xs)), (o2, .inl (cI, 8, .inl ys)), (o3, .inl (cI, 8, .inl rf)), (o4, .inl (cI, 8, .inl bo)), (o5, .inl (cI, 4, .inl pr)), (o6, .inl (cI, 4, .inl bu))]) (wr := [(r0, .inr (2, [.long (as_ + 10)]))]) (w3 := fun (u : Unit) => [(r0, .inr (2, [.long (as_ + 10)])), (o0, .inr (7, [.ref o1, .ref o2, .ref o3, .ref o4, .ref o5, .ref o6, .int (nI n), .int (nI k), .int wd, .int (bb wt)])), (o1, .inl (cI, 8, .inl xs)), (o2, .inl (cI, 8, .inl ys)), (o3, .inl (cI, 8, .inl rf)), (o4, .inl (cI, 8, .inl bo)), (o5, .inl (cI, 4, .inl pr)), (o6, .inl (cI, 4, .inl bu))]) ⟨hx, hb, hml, hown, hts⟩ (c_X8_hasHouse_in l D cI cZ cO H.size o0 o1 o2 o3 o4 o5 o6 xs ys rf bo pr bu n k wd wt h (by first | assumption | omega | rfl) (by first | assumption | omega | rfl)) (cwV 1 hts gX2_straw_X8_hasHouse rfl rfl rfl (by decide +kernel) ⟨Nat.le_of_ble_eq_true rfl, Nat.le_of_ble_eq_true rfl⟩) (xGdc gR gD gK gV) xGd0 (fun _ _ _ _ => trivial) hG hP hD hK hS hA [1, 2, 3, 4, 5, 6, 7] [0] [0, 1, 2, 3, 4, 5, 6, 7] rfl rfl rfl rfl rfl 1 rfl rfl rfl (fun _ => rfl) rfl rfl hl.1 (Nat.le_of_ble_eq_true rfl) dX2_straw_14 ⟨Nat.zero_le _, Nat.zero_le _⟩ (fun r u H locs hw hP hD hS => ?_)
  obtain ⟨rfl, hw⟩ := hw
  have hw_14 : True := hw
  have hP : va_P D vwCl [(r0, .inr (2, [.long (as_ + 10)])), (o0, .inr (7, [.ref o1, .ref o2, .ref o3, .ref o4, .ref o5, .ref o6, .int (nI n), .int (nI k), .int wd, .int (bb wt)])), (o1, .inl (cI, 8, .inl xs)), (o2, .inl (cI, 8, .inl ys)), (o3, .inl (cI, 8, .inl rf)), (o4, .inl (cI, 8, .inl bo)), (o5, .inl (cI, 4, .inl pr)), (o6, .inl (cI, 4, .inl bu))] H := hP
  have hD : va_D A [(r0, .inr (2, [.long (as_ + 10)])), (o0, .inr (7, [.ref o1, .ref o2, .ref o3, .ref o4, .ref o5, .ref o6, .int (nI n), .int (nI k), .int wd, .int (bb wt)])), (o1, .inl (cI, 8, .inl xs)), (o2, .inl (cI, 8, .inl ys)), (o3, .inl (cI, 8, .inl rf)), (o4, .inl (cI, 8, .inl bo)), (o5, .inl (cI, 4, .inl pr)), (o6, .inl (cI, 4, .inl bu))] := hD
  refine lv_if_eq (tgt := 33) hx hb dX2_straw_17 (by decide) (fun c_17 => ?_) (fun c_17 => ?_)
  ·
    exact absurd c_17 (by decide)
  ·
    refine lv_aload_n hx hb dX2_straw_20 rfl (lv_at hl 1 rfl) ?_
    refine lv_aload_n hx hb dX2_straw_21 rfl (lv_at hl 1 rfl) ?_
    refine va_getN (D := D) (ci := 7) (v := .ref o3) (C := RX8) (T := TX8) (N := 10) hx hb hts hin_X8 hown hK hP 1 rfl rfl 2 (by decide) wn_0 (fun _ h9 => h9) rfl dX2_straw_22 ?_
    refine lv_iload_n hx hb dX2_straw_25 rfl (lv_at hl 2 rfl) ?_
    refine x_iald hx hb hK hP 4 0 rfl rfl (j := h) (by omega) (by decide) dX2_straw_26 ?_
    refine xcV_i (As := [.int (rf h)]) (rest := []) (wc := [(o0, .inr (7, [.ref o1, .ref o2, .ref o3, .ref o4, .ref o5, .ref o6, .int (nI n), .int (nI k), .int wd, .int (bb wt)])), (o1, .inl (cI, 8, .inl xs)), (o2, .inl (cI, 8, .inl ys)), (o3, .inl (cI, 8, .inl rf)), (o4, .inl (cI, 8, .inl bo)), (o5, .inl (cI, 4, .inl pr)), (o6, .inl (cI, 4, .inl bu))]) (wr := [(r0, .inr (2, [.long (as_ + 10)]))]) (w3 := fun (u : Unit) => [(r0, .inr (2, [.long (as_ + 10)])), (o0, .inr (7, [.ref o1, .ref o2, .ref o3, .ref o4, .ref o5, .ref o6, .int (nI n), .int (nI k), .int wd, .int (bb wt)])), (o1, .inl (cI, 8, .inl xs)), (o2, .inl (cI, 8, .inl ys)), (o3, .inl (cI, 8, .inl rf)), (o4, .inl (cI, 8, .inl bo)), (o5, .inl (cI, 4, .inl pr)), (o6, .inl (cI, 4, .inl bu))]) ⟨hx, hb, hml, hown, hts⟩ (c_X8_burnOf l D cI cZ cO H.size o0 o1 o2 o3 o4 o5 o6 xs ys rf bo pr bu n k wd wt (rf h) (by first | assumption | omega | rfl)) (cwV 1 hts gX2_straw_X8_burnOf rfl rfl rfl (by decide +kernel) ⟨Nat.le_of_ble_eq_true rfl, Nat.le_of_ble_eq_true rfl⟩) (xGdc gR gD gK gV) xGd0 (fun _ _ _ _ => trivial) hG hP hD hK hS hA [1, 2, 3, 4, 5, 6, 7] [0] [0, 1, 2, 3, 4, 5, 6, 7] rfl rfl rfl rfl rfl 1 rfl rfl rfl (fun _ => rfl) rfl rfl hl.1 (Nat.le_of_ble_eq_true rfl) dX2_straw_27 ⟨Nat.zero_le _, Nat.zero_le _⟩ (fun r u H locs hw hP hD hS => ?_)
    obtain ⟨rfl, hw⟩ := hw
    have hw_27 : True := hw
    have hP : va_P D vwCl [(r0, .inr (2, [.long (as_ + 10)])), (o0, .inr (7, [.ref o1, .ref o2, .ref o3, .ref o4, .ref o5, .ref o6, .int (nI n), .int (nI k), .int wd, .int (bb wt)])), (o1, .inl (cI, 8, .inl xs)), (o2, .inl (cI, 8, .inl ys)), (o3, .inl (cI, 8, .inl rf)), (o4, .inl (cI, 8, .inl bo)), (o5, .inl (cI, 4, .inl pr)), (o6, .inl (cI, 4, .inl bu))] H := hP
    have hD : va_D A [(r0, .inr (2, [.long (as_ + 10)])), (o0, .inr (7, [.ref o1, .ref o2, .ref o3, .ref o4, .ref o5, .ref o6, .int (nI n), .int (nI k), .int wd, .int (bb wt)])), (o1, .inl (cI, 8, .inl xs)), (o2, .inl (cI, 8, .inl ys)), (o3, .inl (cI, 8, .inl rf)), (o4, .inl (cI, 8, .inl bo)), (o5, .inl (cI, 4, .inl pr)), (o6, .inl (cI, 4, .inl bu))] := hD
    refine lv_goto (tgt := 34) hx hb dX2_straw_30 (by decide) ?_
    refine lv_istore_n (lv' := [(3, .int (prOf bu k (rf h))), (0, .ref r0), (1, .ref o0), (2, .int (nI h))]) hx hb dX2_straw_34 rfl hl (by decide) rfl (fun ls hl => ?_)
    refine lv_aload_n hx hb dX2_straw_35 rfl (lv_at hl 1 rfl) ?_
    refine lv_aload_n hx hb dX2_straw_36 rfl (lv_at hl 2 rfl) ?_
    refine lv_iload_n hx hb dX2_straw_37 rfl (lv_at hl 3 rfl) ?_
    refine xcV_i (As := [.ref o0, .int (nI h)]) (rest := []) (wc := [(r0, .inr (2, [.long (as_ + 10)])), (o0, .inr (7, [.ref o1, .ref o2, .ref o3, .ref o4, .ref o5, .ref o6, .int (nI n), .int (nI k), .int wd, .int (bb wt)])), (o1, .inl (cI, 8, .inl xs)), (o2, .inl (cI, 8, .inl ys)), (o3, .inl (cI, 8, .inl rf)), (o4, .inl (cI, 8, .inl bo)), (o5, .inl (cI, 4, .inl pr)), (o6, .inl (cI, 4, .inl bu))]) (wr := []) (w3 := fun (u : Int64) => [(r0, .inr (2, [.long u])), (o0, .inr (7, [.ref o1, .ref o2, .ref o3, .ref o4, .ref o5, .ref o6, .int (nI n), .int (nI k), .int wd, .int (bb wt)])), (o1, .inl (cI, 8, .inl xs)), (o2, .inl (cI, 8, .inl ys)), (o3, .inl (cI, 8, .inl rf)), (o4, .inl (cI, 8, .inl bo)), (o5, .inl (cI, 4, .inl pr)), (o6, .inl (cI, 4, .inl bu))]) ⟨hx, hb, hml, hown, hts⟩ (c_X2_plain l D cI cZ cO H.size gR gD gK gV r0 (as_ + 10) o0 o1 o2 o3 o4 o5 o6 xs ys rf bo pr bu n k wd wt h (by first | assumption | omega | rfl) (by first | assumption | omega | rfl) (by first | assumption | omega | rfl)) (cwV 2 hts gX2_straw_X2_plain rfl rfl rfl (by decide +kernel) ⟨Nat.le_of_ble_eq_true rfl, Nat.le_of_ble_eq_true rfl⟩) (xGdc gR gD gK gV) (xGdc gR gD gK gV) (fun _ _ _ h => h) hG hP hD hK hS hA [0, 1, 2, 3, 4, 5, 6, 7] [] [0, 1, 2, 3, 4, 5, 6, 7] rfl rfl rfl rfl rfl 0 rfl rfl rfl (fun _ => rfl) rfl rfl hl.1 (Nat.le_of_ble_eq_true rfl) dX2_straw_38 ⟨Nat.zero_le _, Nat.zero_le _⟩ (fun r u H locs hw hP hD hS => ?_)
    obtain ⟨z_1, rfl⟩ : ∃ z, z = u := ⟨_, rfl⟩
    obtain ⟨rfl, hw⟩ := hw
    have hw_38 : z_1 = (as_ + 10) + 1 := hw
    have hP : va_P D vwCl [(r0, .inr (2, [.long z_1])), (o0, .inr (7, [.ref o1, .ref o2, .ref o3, .ref o4, .ref o5, .ref o6, .int (nI n), .int (nI k), .int wd, .int (bb wt)])), (o1, .inl (cI, 8, .inl xs)), (o2, .inl (cI, 8, .inl ys)), (o3, .inl (cI, 8, .inl rf)), (o4, .inl (cI, 8, .inl bo)), (o5, .inl (cI, 4, .inl pr)), (o6, .inl (cI, 4, .inl bu))] H := hP
    have hD : va_D A [(r0, .inr (2, [.long z_1])), (o0, .inr (7, [.ref o1, .ref o2, .ref o3, .ref o4, .ref o5, .ref o6, .int (nI n), .int (nI k), .int wd, .int (bb wt)])), (o1, .inl (cI, 8, .inl xs)), (o2, .inl (cI, 8, .inl ys)), (o3, .inl (cI, 8, .inl rf)), (o4, .inl (cI, 8, .inl bo)), (o5, .inl (cI, 4, .inl pr)), (o6, .inl (cI, 4, .inl bu))] := hD
    refine lv_iload_n hx hb dX2_straw_41 rfl (lv_at hl 0 rfl) ?_
    refine lv_iadd hx hb dX2_straw_42 ?_
    exact hret _ (z_1) _ _ _ _ (rfl) (⟨rfl, by rw [hw_38, Int64.add_assoc]; rfl⟩) hP hD hS dX2_straw_43

set_option maxHeartbeats 4000000 in
set_option maxRecDepth 100000 in
theorem c_X2_slate (l : Launch) (D : va_G) (cI cZ cO : ClassId) (sz : Nat) (gR : Nat) (gD : Nat) (gK : Nat → Nat) (gV : Nat → Nat) (r0 : Nat) (as_ : Int64) (o0 : Nat) (o1 : Nat) (o2 : Nat) (o3 : Nat) (o4 : Nat) (o5 : Nat) (o6 : Nat) (xs : Nat → Int32) (ys : Nat → Int32) (rf : Nat → Int32) (bo : Nat → Int32) (pr : Nat → Int32) (bu : Nat → Int32) (n : Nat) (k : Nat) (wd : Int32) (wt : Bool) (h : Nat) (hn : n ≤ 8) (hk : k ≤ 4) (hh : h < n) : xMi l yX2_slate wsX2_slate (3) (68) D (TY cI cZ cO) (xGc gR gD gK gV) [.ref r0, .ref o0, .int (nI h)] [(r0, .inr (2, [.long as_])), (o0, .inr (7, [.ref o1, .ref o2, .ref o3, .ref o4, .ref o5, .ref o6, .int (nI n), .int (nI k), .int wd, .int (bb wt)])), (o1, .inl (cI, 8, .inl xs)), (o2, .inl (cI, 8, .inl ys)), (o3, .inl (cI, 8, .inl rf)), (o4, .inl (cI, 8, .inl bo)), (o5, .inl (cI, 4, .inl pr)), (o6, .inl (cI, 4, .inl bu))] sz (fun (rv_ : Int32) (u : Int64) => rv_ = ((prOf pr k (rf h)) - nI (popc (mkM (fun g => arb xs ys h 1 g) n))) ∧ (u = as_ + 101)) (fun (u : Int64) => [(r0, .inr (2, [.long u])), (o0, .inr (7, [.ref o1, .ref o2, .ref o3, .ref o4, .ref o5, .ref o6, .int (nI n), .int (nI k), .int wd, .int (bb wt)])), (o1, .inl (cI, 8, .inl xs)), (o2, .inl (cI, 8, .inl ys)), (o3, .inl (cI, 8, .inl rf)), (o4, .inl (cI, 8, .inl bo)), (o5, .inl (cI, 4, .inl pr)), (o6, .inl (cI, 4, .inl bu))]) := by
  refine xMi.of (cc := cX2_slate) (maxL := 3) (by decide +kernel) rfl (Nat.le_of_ble_eq_true rfl) ?_
  intro p e s m below meth c A Q H hx hb hml hown hts hA hP hD hK hS hG hret ls hl
  have hown : s.vm.findClass RX2 = some m.cls := hown
  have hP : va_P D vwCl [(r0, .inr (2, [.long as_])), (o0, .inr (7, [.ref o1, .ref o2, .ref o3, .ref o4, .ref o5, .ref o6, .int (nI n), .int (nI k), .int wd, .int (bb wt)])), (o1, .inl (cI, 8, .inl xs)), (o2, .inl (cI, 8, .inl ys)), (o3, .inl (cI, 8, .inl rf)), (o4, .inl (cI, 8, .inl bo)), (o5, .inl (cI, 4, .inl pr)), (o6, .inl (cI, 4, .inl bu))] H := hP
  have hD : va_D A [(r0, .inr (2, [.long as_])), (o0, .inr (7, [.ref o1, .ref o2, .ref o3, .ref o4, .ref o5, .ref o6, .int (nI n), .int (nI k), .int wd, .int (bb wt)])), (o1, .inl (cI, 8, .inl xs)), (o2, .inl (cI, 8, .inl ys)), (o3, .inl (cI, 8, .inl rf)), (o4, .inl (cI, 8, .inl bo)), (o5, .inl (cI, 4, .inl pr)), (o6, .inl (cI, 4, .inl bu))] := hD
  have hl : lv_has ls 3 [(0, .ref r0), (1, .ref o0), (2, .int (nI h))] := hl
  have w_0 := hts (.fieldLink RX2 28 "UnlikeRoofs$Rating" "asked" "J") (List.mem_of_getElem? (i := 1) (by rfl))
  have w_1 := hts (.constantLong RX2 51 (100)) (List.mem_of_getElem? (i := 2) (by rfl))
  have hin_X2 : ∀ w ∈ wsX20, w ∈ wsX2_slate := fun _ h => List.mem_cons_of_mem _ (List.mem_append_left _ (List.mem_append_right _ h))
  have _h0 : True := trivial
  refine lv_aload_n hx hb dX2_slate_0 rfl (lv_at hl 0 rfl) ?_
  refine lv_dup hx hb dX2_slate_1 rfl ?_
  refine va_get (D := D) (ci := 2) (v := .long as_) (C := RX2) (T := TX2) (N := 1) hx hb hts hin_X2 hown hK hP 0 rfl rfl 0 (by decide) w_0 (fun _ h9 => h9) rfl dX2_slate_2 ?_
  refine lv_ldc2 hx hb hown w_1 dX2_slate_5 ?_
  refine lv_ladd hx hb dX2_slate_8 ?_
  refine va_put (D := D) (ci := 2) (v := .long (as_ + 100)) (ty := .long) (C := RX2) (T := TX2) (N := 1) hx hb hts hin_X2 tyX2 tyX2_ok nmX2 hown hK hP hD hS 0 rfl rfl 0 (by decide) w_0 (fun _ h9 => h9) rfl (by decide +kernel) rfl rfl (Nat.le_of_ble_eq_true rfl) dX2_slate_9 (fun H locs hP hD hS => ?_)
  have hP : va_P D vwCl [(r0, .inr (2, [.long (as_ + 100)])), (o0, .inr (7, [.ref o1, .ref o2, .ref o3, .ref o4, .ref o5, .ref o6, .int (nI n), .int (nI k), .int wd, .int (bb wt)])), (o1, .inl (cI, 8, .inl xs)), (o2, .inl (cI, 8, .inl ys)), (o3, .inl (cI, 8, .inl rf)), (o4, .inl (cI, 8, .inl bo)), (o5, .inl (cI, 4, .inl pr)), (o6, .inl (cI, 4, .inl bu))] H := hP
  have hD : va_D A [(r0, .inr (2, [.long (as_ + 100)])), (o0, .inr (7, [.ref o1, .ref o2, .ref o3, .ref o4, .ref o5, .ref o6, .int (nI n), .int (nI k), .int wd, .int (bb wt)])), (o1, .inl (cI, 8, .inl xs)), (o2, .inl (cI, 8, .inl ys)), (o3, .inl (cI, 8, .inl rf)), (o4, .inl (cI, 8, .inl bo)), (o5, .inl (cI, 4, .inl pr)), (o6, .inl (cI, 4, .inl bu))] := hD
  refine lv_aload_n hx hb dX2_slate_12 rfl (lv_at hl 0 rfl) ?_
  refine lv_aload_n hx hb dX2_slate_13 rfl (lv_at hl 1 rfl) ?_
  refine lv_iload_n hx hb dX2_slate_14 rfl (lv_at hl 2 rfl) ?_
  refine xcV_i (As := [.ref o0, .int (nI h)]) (rest := []) (wc := [(r0, .inr (2, [.long (as_ + 100)])), (o0, .inr (7, [.ref o1, .ref o2, .ref o3, .ref o4, .ref o5, .ref o6, .int (nI n), .int (nI k), .int wd, .int (bb wt)])), (o1, .inl (cI, 8, .inl xs)), (o2, .inl (cI, 8, .inl ys)), (o3, .inl (cI, 8, .inl rf)), (o4, .inl (cI, 8, .inl bo)), (o5, .inl (cI, 4, .inl pr)), (o6, .inl (cI, 4, .inl bu))]) (wr := []) (w3 := fun (u : Int64) => [(r0, .inr (2, [.long u])), (o0, .inr (7, [.ref o1, .ref o2, .ref o3, .ref o4, .ref o5, .ref o6, .int (nI n), .int (nI k), .int wd, .int (bb wt)])), (o1, .inl (cI, 8, .inl xs)), (o2, .inl (cI, 8, .inl ys)), (o3, .inl (cI, 8, .inl rf)), (o4, .inl (cI, 8, .inl bo)), (o5, .inl (cI, 4, .inl pr)), (o6, .inl (cI, 4, .inl bu))]) ⟨hx, hb, hml, hown, hts⟩ (c_X2_plain l D cI cZ cO H.size gR gD gK gV r0 (as_ + 100) o0 o1 o2 o3 o4 o5 o6 xs ys rf bo pr bu n k wd wt h (by first | assumption | omega | rfl) (by first | assumption | omega | rfl) (by first | assumption | omega | rfl)) (cwV 2 hts gX2_slate_X2_plain rfl rfl rfl (by decide +kernel) ⟨Nat.le_of_ble_eq_true rfl, Nat.le_of_ble_eq_true rfl⟩) (xGdc gR gD gK gV) (xGdc gR gD gK gV) (fun _ _ _ h => h) hG hP hD hK hS hA [0, 1, 2, 3, 4, 5, 6, 7] [] [0, 1, 2, 3, 4, 5, 6, 7] rfl rfl rfl rfl rfl 0 rfl rfl rfl (fun _ => rfl) rfl rfl hl.1 (Nat.le_of_ble_eq_true rfl) dX2_slate_15 ⟨Nat.zero_le _, Nat.zero_le _⟩ (fun r u H locs hw hP hD hS => ?_)
  obtain ⟨z_1, rfl⟩ : ∃ z, z = u := ⟨_, rfl⟩
  obtain ⟨rfl, hw⟩ := hw
  have hw_15 : z_1 = (as_ + 100) + 1 := hw
  have hP : va_P D vwCl [(r0, .inr (2, [.long z_1])), (o0, .inr (7, [.ref o1, .ref o2, .ref o3, .ref o4, .ref o5, .ref o6, .int (nI n), .int (nI k), .int wd, .int (bb wt)])), (o1, .inl (cI, 8, .inl xs)), (o2, .inl (cI, 8, .inl ys)), (o3, .inl (cI, 8, .inl rf)), (o4, .inl (cI, 8, .inl bo)), (o5, .inl (cI, 4, .inl pr)), (o6, .inl (cI, 4, .inl bu))] H := hP
  have hD : va_D A [(r0, .inr (2, [.long z_1])), (o0, .inr (7, [.ref o1, .ref o2, .ref o3, .ref o4, .ref o5, .ref o6, .int (nI n), .int (nI k), .int wd, .int (bb wt)])), (o1, .inl (cI, 8, .inl xs)), (o2, .inl (cI, 8, .inl ys)), (o3, .inl (cI, 8, .inl rf)), (o4, .inl (cI, 8, .inl bo)), (o5, .inl (cI, 4, .inl pr)), (o6, .inl (cI, 4, .inl bu))] := hD
  refine lv_aload_n hx hb dX2_slate_18 rfl (lv_at hl 1 rfl) ?_
  refine lv_iload_n hx hb dX2_slate_19 rfl (lv_at hl 2 rfl) ?_
  refine xcV_i (As := [.int (nI h)]) (rest := [.int (prOf pr k (rf h))]) (wc := [(o0, .inr (7, [.ref o1, .ref o2, .ref o3, .ref o4, .ref o5, .ref o6, .int (nI n), .int (nI k), .int wd, .int (bb wt)])), (o1, .inl (cI, 8, .inl xs)), (o2, .inl (cI, 8, .inl ys)), (o3, .inl (cI, 8, .inl rf)), (o4, .inl (cI, 8, .inl bo)), (o5, .inl (cI, 4, .inl pr)), (o6, .inl (cI, 4, .inl bu))]) (wr := [(r0, .inr (2, [.long z_1]))]) (w3 := fun (u : Unit) => [(r0, .inr (2, [.long z_1])), (o0, .inr (7, [.ref o1, .ref o2, .ref o3, .ref o4, .ref o5, .ref o6, .int (nI n), .int (nI k), .int wd, .int (bb wt)])), (o1, .inl (cI, 8, .inl xs)), (o2, .inl (cI, 8, .inl ys)), (o3, .inl (cI, 8, .inl rf)), (o4, .inl (cI, 8, .inl bo)), (o5, .inl (cI, 4, .inl pr)), (o6, .inl (cI, 4, .inl bu))]) ⟨hx, hb, hml, hown, hts⟩ (c_X8_touched l D cI cZ cO H.size o0 o1 o2 o3 o4 o5 o6 xs ys rf bo pr bu n k wd wt h (by first | assumption | omega | rfl) (by first | assumption | omega | rfl)) (cwV 1 hts gX2_slate_X8_touched rfl rfl rfl (by decide +kernel) ⟨Nat.le_of_ble_eq_true rfl, Nat.le_of_ble_eq_true rfl⟩) (xGdc gR gD gK gV) xGd0 (fun _ _ _ _ => trivial) hG hP hD hK hS hA [1, 2, 3, 4, 5, 6, 7] [0] [0, 1, 2, 3, 4, 5, 6, 7] rfl rfl rfl rfl rfl 1 rfl rfl rfl (fun _ => rfl) rfl rfl hl.1 (Nat.le_of_ble_eq_true rfl) dX2_slate_20 ⟨Nat.zero_le _, Nat.zero_le _⟩ (fun r u H locs hw hP hD hS => ?_)
  obtain ⟨rfl, hw⟩ := hw
  have hw_20 : True := hw
  have hP : va_P D vwCl [(r0, .inr (2, [.long z_1])), (o0, .inr (7, [.ref o1, .ref o2, .ref o3, .ref o4, .ref o5, .ref o6, .int (nI n), .int (nI k), .int wd, .int (bb wt)])), (o1, .inl (cI, 8, .inl xs)), (o2, .inl (cI, 8, .inl ys)), (o3, .inl (cI, 8, .inl rf)), (o4, .inl (cI, 8, .inl bo)), (o5, .inl (cI, 4, .inl pr)), (o6, .inl (cI, 4, .inl bu))] H := hP
  have hD : va_D A [(r0, .inr (2, [.long z_1])), (o0, .inr (7, [.ref o1, .ref o2, .ref o3, .ref o4, .ref o5, .ref o6, .int (nI n), .int (nI k), .int wd, .int (bb wt)])), (o1, .inl (cI, 8, .inl xs)), (o2, .inl (cI, 8, .inl ys)), (o3, .inl (cI, 8, .inl rf)), (o4, .inl (cI, 8, .inl bo)), (o5, .inl (cI, 4, .inl pr)), (o6, .inl (cI, 4, .inl bu))] := hD
  refine xcS_i (As := [.int (nI (mkM (fun g => arb xs ys h 1 g) n))]) (rest := [.int (prOf pr k (rf h))]) (wc := []) (wr := [(r0, .inr (2, [.long z_1])), (o0, .inr (7, [.ref o1, .ref o2, .ref o3, .ref o4, .ref o5, .ref o6, .int (nI n), .int (nI k), .int wd, .int (bb wt)])), (o1, .inl (cI, 8, .inl xs)), (o2, .inl (cI, 8, .inl ys)), (o3, .inl (cI, 8, .inl rf)), (o4, .inl (cI, 8, .inl bo)), (o5, .inl (cI, 4, .inl pr)), (o6, .inl (cI, 4, .inl bu))]) (w3 := fun (u : Unit) => [(r0, .inr (2, [.long z_1])), (o0, .inr (7, [.ref o1, .ref o2, .ref o3, .ref o4, .ref o5, .ref o6, .int (nI n), .int (nI k), .int wd, .int (bb wt)])), (o1, .inl (cI, 8, .inl xs)), (o2, .inl (cI, 8, .inl ys)), (o3, .inl (cI, 8, .inl rf)), (o4, .inl (cI, 8, .inl bo)), (o5, .inl (cI, 4, .inl pr)), (o6, .inl (cI, 4, .inl bu))]) ⟨hx, hb, hml, hown, hts⟩ (c_J6_bitCount_0f7a4 l D cI cZ cO H.size (mkM (fun g => arb xs ys h 1 g) n) (mkM_256 hn)) (va_cwS 1 hts gX2_slate_J6_bitCount_0f7a4 rfl rfl rfl (by decide +kernel) ⟨Nat.le_of_ble_eq_true rfl, Nat.le_of_ble_eq_true rfl⟩) (xGdc gR gD gK gV) xGd0 (fun _ _ _ _ => trivial) hG hP hD hK hS hA [] [0, 1, 2, 3, 4, 5, 6, 7] [0, 1, 2, 3, 4, 5, 6, 7] rfl rfl rfl rfl rfl rfl (fun _ => rfl) rfl rfl hl.1 (Nat.le_of_ble_eq_true rfl) dX2_slate_23 ⟨Nat.zero_le _, Nat.zero_le _⟩ (fun r u H locs hw hP hD hS => ?_)
  obtain ⟨rfl, hw⟩ := hw
  have hw_23 : True := hw
  have hP : va_P D vwCl [(r0, .inr (2, [.long z_1])), (o0, .inr (7, [.ref o1, .ref o2, .ref o3, .ref o4, .ref o5, .ref o6, .int (nI n), .int (nI k), .int wd, .int (bb wt)])), (o1, .inl (cI, 8, .inl xs)), (o2, .inl (cI, 8, .inl ys)), (o3, .inl (cI, 8, .inl rf)), (o4, .inl (cI, 8, .inl bo)), (o5, .inl (cI, 4, .inl pr)), (o6, .inl (cI, 4, .inl bu))] H := hP
  have hD : va_D A [(r0, .inr (2, [.long z_1])), (o0, .inr (7, [.ref o1, .ref o2, .ref o3, .ref o4, .ref o5, .ref o6, .int (nI n), .int (nI k), .int wd, .int (bb wt)])), (o1, .inl (cI, 8, .inl xs)), (o2, .inl (cI, 8, .inl ys)), (o3, .inl (cI, 8, .inl rf)), (o4, .inl (cI, 8, .inl bo)), (o5, .inl (cI, 4, .inl pr)), (o6, .inl (cI, 4, .inl bu))] := hD
  refine lv_isub hx hb dX2_slate_26 ?_
  exact hret _ (z_1) _ _ _ _ (rfl) (⟨rfl, by rw [hw_15, Int64.add_assoc]; rfl⟩) hP hD hS dX2_slate_27

set_option maxHeartbeats 4000000 in
set_option maxRecDepth 100000 in
theorem c_X2_mossed (l : Launch) (D : va_G) (cI cZ cO : ClassId) (sz : Nat) (gR : Nat) (gD : Nat) (gK : Nat → Nat) (gV : Nat → Nat) (r0 : Nat) (as_ : Int64) (o0 : Nat) (o1 : Nat) (o2 : Nat) (o3 : Nat) (o4 : Nat) (o5 : Nat) (o6 : Nat) (xs : Nat → Int32) (ys : Nat → Int32) (rf : Nat → Int32) (bo : Nat → Int32) (pr : Nat → Int32) (bu : Nat → Int32) (n : Nat) (k : Nat) (wd : Int32) (wt : Bool) (h : Nat) (hn : n ≤ 8) (hk : k ≤ 4) (hh : h < n) : xMi l yX2_mossed wsX2_mossed (4) (87) D (TY cI cZ cO) (xGc gR gD gK gV) [.ref r0, .ref o0, .int (nI h)] [(r0, .inr (2, [.long as_])), (o0, .inr (7, [.ref o1, .ref o2, .ref o3, .ref o4, .ref o5, .ref o6, .int (nI n), .int (nI k), .int wd, .int (bb wt)])), (o1, .inl (cI, 8, .inl xs)), (o2, .inl (cI, 8, .inl ys)), (o3, .inl (cI, 8, .inl rf)), (o4, .inl (cI, 8, .inl bo)), (o5, .inl (cI, 4, .inl pr)), (o6, .inl (cI, 4, .inl bu))] sz (fun (rv_ : Int32) (u : Int64) => rv_ = (2 * ((prOf pr k (rf h)) + prOf bu k (rf h))) ∧ (u = as_ + 1011)) (fun (u : Int64) => [(r0, .inr (2, [.long u])), (o0, .inr (7, [.ref o1, .ref o2, .ref o3, .ref o4, .ref o5, .ref o6, .int (nI n), .int (nI k), .int wd, .int (bb wt)])), (o1, .inl (cI, 8, .inl xs)), (o2, .inl (cI, 8, .inl ys)), (o3, .inl (cI, 8, .inl rf)), (o4, .inl (cI, 8, .inl bo)), (o5, .inl (cI, 4, .inl pr)), (o6, .inl (cI, 4, .inl bu))]) := by
  refine xMi.of (cc := cX2_mossed) (maxL := 3) (by decide +kernel) rfl (Nat.le_of_ble_eq_true rfl) ?_
  intro p e s m below meth c A Q H hx hb hml hown hts hA hP hD hK hS hG hret ls hl
  have hown : s.vm.findClass RX2 = some m.cls := hown
  have hP : va_P D vwCl [(r0, .inr (2, [.long as_])), (o0, .inr (7, [.ref o1, .ref o2, .ref o3, .ref o4, .ref o5, .ref o6, .int (nI n), .int (nI k), .int wd, .int (bb wt)])), (o1, .inl (cI, 8, .inl xs)), (o2, .inl (cI, 8, .inl ys)), (o3, .inl (cI, 8, .inl rf)), (o4, .inl (cI, 8, .inl bo)), (o5, .inl (cI, 4, .inl pr)), (o6, .inl (cI, 4, .inl bu))] H := hP
  have hD : va_D A [(r0, .inr (2, [.long as_])), (o0, .inr (7, [.ref o1, .ref o2, .ref o3, .ref o4, .ref o5, .ref o6, .int (nI n), .int (nI k), .int wd, .int (bb wt)])), (o1, .inl (cI, 8, .inl xs)), (o2, .inl (cI, 8, .inl ys)), (o3, .inl (cI, 8, .inl rf)), (o4, .inl (cI, 8, .inl bo)), (o5, .inl (cI, 4, .inl pr)), (o6, .inl (cI, 4, .inl bu))] := hD
  have hl : lv_has ls 3 [(0, .ref r0), (1, .ref o0), (2, .int (nI h))] := hl
  have w_0 := hts (.fieldLink RX2 28 "UnlikeRoofs$Rating" "asked" "J") (List.mem_of_getElem? (i := 1) (by rfl))
  have w_1 := hts (.constantLong RX2 61 (1000)) (List.mem_of_getElem? (i := 2) (by rfl))
  have hin_X2 : ∀ w ∈ wsX20, w ∈ wsX2_mossed := fun _ h => List.mem_cons_of_mem _ (List.mem_append_left _ (List.mem_append_right _ h))
  have _h0 : True := trivial
  refine lv_aload_n hx hb dX2_mossed_0 rfl (lv_at hl 0 rfl) ?_
  refine lv_dup hx hb dX2_mossed_1 rfl ?_
  refine va_get (D := D) (ci := 2) (v := .long as_) (C := RX2) (T := TX2) (N := 1) hx hb hts hin_X2 hown hK hP 0 rfl rfl 0 (by decide) w_0 (fun _ h9 => h9) rfl dX2_mossed_2 ?_
  refine lv_ldc2 hx hb hown w_1 dX2_mossed_5 ?_
  refine lv_ladd hx hb dX2_mossed_8 ?_
  refine va_put (D := D) (ci := 2) (v := .long (as_ + 1000)) (ty := .long) (C := RX2) (T := TX2) (N := 1) hx hb hts hin_X2 tyX2 tyX2_ok nmX2 hown hK hP hD hS 0 rfl rfl 0 (by decide) w_0 (fun _ h9 => h9) rfl (by decide +kernel) rfl rfl (Nat.le_of_ble_eq_true rfl) dX2_mossed_9 (fun H locs hP hD hS => ?_)
  have hP : va_P D vwCl [(r0, .inr (2, [.long (as_ + 1000)])), (o0, .inr (7, [.ref o1, .ref o2, .ref o3, .ref o4, .ref o5, .ref o6, .int (nI n), .int (nI k), .int wd, .int (bb wt)])), (o1, .inl (cI, 8, .inl xs)), (o2, .inl (cI, 8, .inl ys)), (o3, .inl (cI, 8, .inl rf)), (o4, .inl (cI, 8, .inl bo)), (o5, .inl (cI, 4, .inl pr)), (o6, .inl (cI, 4, .inl bu))] H := hP
  have hD : va_D A [(r0, .inr (2, [.long (as_ + 1000)])), (o0, .inr (7, [.ref o1, .ref o2, .ref o3, .ref o4, .ref o5, .ref o6, .int (nI n), .int (nI k), .int wd, .int (bb wt)])), (o1, .inl (cI, 8, .inl xs)), (o2, .inl (cI, 8, .inl ys)), (o3, .inl (cI, 8, .inl rf)), (o4, .inl (cI, 8, .inl bo)), (o5, .inl (cI, 4, .inl pr)), (o6, .inl (cI, 4, .inl bu))] := hD
  refine lv_iconst (v := (2 : Int32)) hx hb dX2_mossed_12 (by decide) ?_
  refine lv_aload_n hx hb dX2_mossed_13 rfl (lv_at hl 0 rfl) ?_
  refine lv_aload_n hx hb dX2_mossed_14 rfl (lv_at hl 1 rfl) ?_
  refine lv_iload_n hx hb dX2_mossed_15 rfl (lv_at hl 2 rfl) ?_
  refine xcV_i (As := [.ref o0, .int (nI h)]) (rest := [.int (2 : Int32)]) (wc := [(r0, .inr (2, [.long (as_ + 1000)])), (o0, .inr (7, [.ref o1, .ref o2, .ref o3, .ref o4, .ref o5, .ref o6, .int (nI n), .int (nI k), .int wd, .int (bb wt)])), (o1, .inl (cI, 8, .inl xs)), (o2, .inl (cI, 8, .inl ys)), (o3, .inl (cI, 8, .inl rf)), (o4, .inl (cI, 8, .inl bo)), (o5, .inl (cI, 4, .inl pr)), (o6, .inl (cI, 4, .inl bu))]) (wr := []) (w3 := fun (u : Int64) => [(r0, .inr (2, [.long u])), (o0, .inr (7, [.ref o1, .ref o2, .ref o3, .ref o4, .ref o5, .ref o6, .int (nI n), .int (nI k), .int wd, .int (bb wt)])), (o1, .inl (cI, 8, .inl xs)), (o2, .inl (cI, 8, .inl ys)), (o3, .inl (cI, 8, .inl rf)), (o4, .inl (cI, 8, .inl bo)), (o5, .inl (cI, 4, .inl pr)), (o6, .inl (cI, 4, .inl bu))]) ⟨hx, hb, hml, hown, hts⟩ (c_X2_straw l D cI cZ cO H.size gR gD gK gV r0 (as_ + 1000) o0 o1 o2 o3 o4 o5 o6 xs ys rf bo pr bu n k wd wt h (by first | assumption | omega | rfl) (by first | assumption | omega | rfl) (by first | assumption | omega | rfl)) (cwV 2 hts gX2_mossed_X2_straw rfl rfl rfl (by decide +kernel) ⟨Nat.le_of_ble_eq_true rfl, Nat.le_of_ble_eq_true rfl⟩) (xGdc gR gD gK gV) (xGdc gR gD gK gV) (fun _ _ _ h => h) hG hP hD hK hS hA [0, 1, 2, 3, 4, 5, 6, 7] [] [0, 1, 2, 3, 4, 5, 6, 7] rfl rfl rfl rfl rfl 0 rfl rfl rfl (fun _ => rfl) rfl rfl hl.1 (Nat.le_of_ble_eq_true rfl) dX2_mossed_16 ⟨Nat.zero_le _, Nat.zero_le _⟩ (fun r u H locs hw hP hD hS => ?_)
  obtain ⟨z_1, rfl⟩ : ∃ z, z = u := ⟨_, rfl⟩
  obtain ⟨rfl, hw⟩ := hw
  have hw_16 : z_1 = (as_ + 1000) + 11 := hw
  have hP : va_P D vwCl [(r0, .inr (2, [.long z_1])), (o0, .inr (7, [.ref o1, .ref o2, .ref o3, .ref o4, .ref o5, .ref o6, .int (nI n), .int (nI k), .int wd, .int (bb wt)])), (o1, .inl (cI, 8, .inl xs)), (o2, .inl (cI, 8, .inl ys)), (o3, .inl (cI, 8, .inl rf)), (o4, .inl (cI, 8, .inl bo)), (o5, .inl (cI, 4, .inl pr)), (o6, .inl (cI, 4, .inl bu))] H := hP
  have hD : va_D A [(r0, .inr (2, [.long z_1])), (o0, .inr (7, [.ref o1, .ref o2, .ref o3, .ref o4, .ref o5, .ref o6, .int (nI n), .int (nI k), .int wd, .int (bb wt)])), (o1, .inl (cI, 8, .inl xs)), (o2, .inl (cI, 8, .inl ys)), (o3, .inl (cI, 8, .inl rf)), (o4, .inl (cI, 8, .inl bo)), (o5, .inl (cI, 4, .inl pr)), (o6, .inl (cI, 4, .inl bu))] := hD
  refine lv_imul hx hb dX2_mossed_19 ?_
  exact hret _ (z_1) _ _ _ _ (rfl) (⟨rfl, by rw [hw_16, Int64.add_assoc]; rfl⟩) hP hD hS dX2_mossed_20

set_option maxHeartbeats 4000000 in
set_option maxRecDepth 100000 in
theorem c_X2_tarred (l : Launch) (D : va_G) (cI cZ cO : ClassId) (sz : Nat) (gR : Nat) (gD : Nat) (gK : Nat → Nat) (gV : Nat → Nat) (r0 : Nat) (as_ : Int64) (o0 : Nat) (o1 : Nat) (o2 : Nat) (o3 : Nat) (o4 : Nat) (o5 : Nat) (o6 : Nat) (xs : Nat → Int32) (ys : Nat → Int32) (rf : Nat → Int32) (bo : Nat → Int32) (pr : Nat → Int32) (bu : Nat → Int32) (n : Nat) (k : Nat) (wd : Int32) (wt : Bool) (h : Nat) (hn : n ≤ 8) (hk : k ≤ 4) (hh : h < n) : xMi l yX2_tarred wsX2_tarred (4) (90) D (TY cI cZ cO) (xGc gR gD gK gV) [.ref r0, .ref o0, .int (nI h)] [(r0, .inr (2, [.long as_])), (o0, .inr (7, [.ref o1, .ref o2, .ref o3, .ref o4, .ref o5, .ref o6, .int (nI n), .int (nI k), .int wd, .int (bb wt)])), (o1, .inl (cI, 8, .inl xs)), (o2, .inl (cI, 8, .inl ys)), (o3, .inl (cI, 8, .inl rf)), (o4, .inl (cI, 8, .inl bo)), (o5, .inl (cI, 4, .inl pr)), (o6, .inl (cI, 4, .inl bu))] sz (fun (rv_ : Int32) (u : Int64) => rv_ = (((prOf pr k (rf h)) - nI (popc (mkM (fun g => arb xs ys h 1 g) n))) + wd) ∧ (u = as_ + 10101)) (fun (u : Int64) => [(r0, .inr (2, [.long u])), (o0, .inr (7, [.ref o1, .ref o2, .ref o3, .ref o4, .ref o5, .ref o6, .int (nI n), .int (nI k), .int wd, .int (bb wt)])), (o1, .inl (cI, 8, .inl xs)), (o2, .inl (cI, 8, .inl ys)), (o3, .inl (cI, 8, .inl rf)), (o4, .inl (cI, 8, .inl bo)), (o5, .inl (cI, 4, .inl pr)), (o6, .inl (cI, 4, .inl bu))]) := by
  refine xMi.of (cc := cX2_tarred) (maxL := 3) (by decide +kernel) rfl (Nat.le_of_ble_eq_true rfl) ?_
  intro p e s m below meth c A Q H hx hb hml hown hts hA hP hD hK hS hG hret ls hl
  have hown : s.vm.findClass RX2 = some m.cls := hown
  have hP : va_P D vwCl [(r0, .inr (2, [.long as_])), (o0, .inr (7, [.ref o1, .ref o2, .ref o3, .ref o4, .ref o5, .ref o6, .int (nI n), .int (nI k), .int wd, .int (bb wt)])), (o1, .inl (cI, 8, .inl xs)), (o2, .inl (cI, 8, .inl ys)), (o3, .inl (cI, 8, .inl rf)), (o4, .inl (cI, 8, .inl bo)), (o5, .inl (cI, 4, .inl pr)), (o6, .inl (cI, 4, .inl bu))] H := hP
  have hD : va_D A [(r0, .inr (2, [.long as_])), (o0, .inr (7, [.ref o1, .ref o2, .ref o3, .ref o4, .ref o5, .ref o6, .int (nI n), .int (nI k), .int wd, .int (bb wt)])), (o1, .inl (cI, 8, .inl xs)), (o2, .inl (cI, 8, .inl ys)), (o3, .inl (cI, 8, .inl rf)), (o4, .inl (cI, 8, .inl bo)), (o5, .inl (cI, 4, .inl pr)), (o6, .inl (cI, 4, .inl bu))] := hD
  have hl : lv_has ls 3 [(0, .ref r0), (1, .ref o0), (2, .int (nI h))] := hl
  have w_0 := hts (.fieldLink RX2 28 "UnlikeRoofs$Rating" "asked" "J") (List.mem_of_getElem? (i := 1) (by rfl))
  have w_1 := hts (.constantLong RX2 63 (10000)) (List.mem_of_getElem? (i := 2) (by rfl))
  have wn_0 : (Cond.fieldLinkNest RX2 65 "UnlikeRoofs$Town" "blowing" "I" "UnlikeRoofs").before ([.ref r0, .ref o0, .int (nI h)] : List Value).toArray s = true := va_Nw.use rfl (hG.1 (.fieldLinkNest RX2 65 "UnlikeRoofs$Town" "blowing" "I" "UnlikeRoofs") (List.mem_of_getElem? (i := 28) (by rfl)))
  have hin_X2 : ∀ w ∈ wsX20, w ∈ wsX2_tarred := fun _ h => List.mem_cons_of_mem _ (List.mem_append_left _ (List.mem_append_right _ h))
  have hin_X8 : ∀ w ∈ wsX80, w ∈ wsX2_tarred := fun _ h => List.mem_cons_of_mem _ (List.mem_append_right _ h)
  have _h0 : True := trivial
  refine lv_aload_n hx hb dX2_tarred_0 rfl (lv_at hl 0 rfl) ?_
  refine lv_dup hx hb dX2_tarred_1 rfl ?_
  refine va_get (D := D) (ci := 2) (v := .long as_) (C := RX2) (T := TX2) (N := 1) hx hb hts hin_X2 hown hK hP 0 rfl rfl 0 (by decide) w_0 (fun _ h9 => h9) rfl dX2_tarred_2 ?_
  refine lv_ldc2 hx hb hown w_1 dX2_tarred_5 ?_
  refine lv_ladd hx hb dX2_tarred_8 ?_
  refine va_put (D := D) (ci := 2) (v := .long (as_ + 10000)) (ty := .long) (C := RX2) (T := TX2) (N := 1) hx hb hts hin_X2 tyX2 tyX2_ok nmX2 hown hK hP hD hS 0 rfl rfl 0 (by decide) w_0 (fun _ h9 => h9) rfl (by decide +kernel) rfl rfl (Nat.le_of_ble_eq_true rfl) dX2_tarred_9 (fun H locs hP hD hS => ?_)
  have hP : va_P D vwCl [(r0, .inr (2, [.long (as_ + 10000)])), (o0, .inr (7, [.ref o1, .ref o2, .ref o3, .ref o4, .ref o5, .ref o6, .int (nI n), .int (nI k), .int wd, .int (bb wt)])), (o1, .inl (cI, 8, .inl xs)), (o2, .inl (cI, 8, .inl ys)), (o3, .inl (cI, 8, .inl rf)), (o4, .inl (cI, 8, .inl bo)), (o5, .inl (cI, 4, .inl pr)), (o6, .inl (cI, 4, .inl bu))] H := hP
  have hD : va_D A [(r0, .inr (2, [.long (as_ + 10000)])), (o0, .inr (7, [.ref o1, .ref o2, .ref o3, .ref o4, .ref o5, .ref o6, .int (nI n), .int (nI k), .int wd, .int (bb wt)])), (o1, .inl (cI, 8, .inl xs)), (o2, .inl (cI, 8, .inl ys)), (o3, .inl (cI, 8, .inl rf)), (o4, .inl (cI, 8, .inl bo)), (o5, .inl (cI, 4, .inl pr)), (o6, .inl (cI, 4, .inl bu))] := hD
  refine lv_aload_n hx hb dX2_tarred_12 rfl (lv_at hl 0 rfl) ?_
  refine lv_aload_n hx hb dX2_tarred_13 rfl (lv_at hl 1 rfl) ?_
  refine lv_iload_n hx hb dX2_tarred_14 rfl (lv_at hl 2 rfl) ?_
  refine xcV_i (As := [.ref o0, .int (nI h)]) (rest := []) (wc := [(r0, .inr (2, [.long (as_ + 10000)])), (o0, .inr (7, [.ref o1, .ref o2, .ref o3, .ref o4, .ref o5, .ref o6, .int (nI n), .int (nI k), .int wd, .int (bb wt)])), (o1, .inl (cI, 8, .inl xs)), (o2, .inl (cI, 8, .inl ys)), (o3, .inl (cI, 8, .inl rf)), (o4, .inl (cI, 8, .inl bo)), (o5, .inl (cI, 4, .inl pr)), (o6, .inl (cI, 4, .inl bu))]) (wr := []) (w3 := fun (u : Int64) => [(r0, .inr (2, [.long u])), (o0, .inr (7, [.ref o1, .ref o2, .ref o3, .ref o4, .ref o5, .ref o6, .int (nI n), .int (nI k), .int wd, .int (bb wt)])), (o1, .inl (cI, 8, .inl xs)), (o2, .inl (cI, 8, .inl ys)), (o3, .inl (cI, 8, .inl rf)), (o4, .inl (cI, 8, .inl bo)), (o5, .inl (cI, 4, .inl pr)), (o6, .inl (cI, 4, .inl bu))]) ⟨hx, hb, hml, hown, hts⟩ (c_X2_slate l D cI cZ cO H.size gR gD gK gV r0 (as_ + 10000) o0 o1 o2 o3 o4 o5 o6 xs ys rf bo pr bu n k wd wt h (by first | assumption | omega | rfl) (by first | assumption | omega | rfl) (by first | assumption | omega | rfl)) (cwV 2 hts gX2_tarred_X2_slate rfl rfl rfl (by decide +kernel) ⟨Nat.le_of_ble_eq_true rfl, Nat.le_of_ble_eq_true rfl⟩) (xGdc gR gD gK gV) (xGdc gR gD gK gV) (fun _ _ _ h => h) hG hP hD hK hS hA [0, 1, 2, 3, 4, 5, 6, 7] [] [0, 1, 2, 3, 4, 5, 6, 7] rfl rfl rfl rfl rfl 0 rfl rfl rfl (fun _ => rfl) rfl rfl hl.1 (Nat.le_of_ble_eq_true rfl) dX2_tarred_15 ⟨Nat.zero_le _, Nat.zero_le _⟩ (fun r u H locs hw hP hD hS => ?_)
  obtain ⟨z_1, rfl⟩ : ∃ z, z = u := ⟨_, rfl⟩
  obtain ⟨rfl, hw⟩ := hw
  have hw_15 : z_1 = (as_ + 10000) + 101 := hw
  have hP : va_P D vwCl [(r0, .inr (2, [.long z_1])), (o0, .inr (7, [.ref o1, .ref o2, .ref o3, .ref o4, .ref o5, .ref o6, .int (nI n), .int (nI k), .int wd, .int (bb wt)])), (o1, .inl (cI, 8, .inl xs)), (o2, .inl (cI, 8, .inl ys)), (o3, .inl (cI, 8, .inl rf)), (o4, .inl (cI, 8, .inl bo)), (o5, .inl (cI, 4, .inl pr)), (o6, .inl (cI, 4, .inl bu))] H := hP
  have hD : va_D A [(r0, .inr (2, [.long z_1])), (o0, .inr (7, [.ref o1, .ref o2, .ref o3, .ref o4, .ref o5, .ref o6, .int (nI n), .int (nI k), .int wd, .int (bb wt)])), (o1, .inl (cI, 8, .inl xs)), (o2, .inl (cI, 8, .inl ys)), (o3, .inl (cI, 8, .inl rf)), (o4, .inl (cI, 8, .inl bo)), (o5, .inl (cI, 4, .inl pr)), (o6, .inl (cI, 4, .inl bu))] := hD
  refine lv_aload_n hx hb dX2_tarred_18 rfl (lv_at hl 1 rfl) ?_
  refine va_getN (D := D) (ci := 7) (v := .int wd) (C := RX8) (T := TX8) (N := 10) hx hb hts hin_X8 hown hK hP 1 rfl rfl 8 (by decide) wn_0 (fun _ h9 => h9) rfl dX2_tarred_19 ?_
  refine lv_iadd hx hb dX2_tarred_22 ?_
  exact hret _ (z_1) _ _ _ _ (rfl) (⟨rfl, by rw [hw_15, Int64.add_assoc]; rfl⟩) hP hD hS dX2_tarred_23

set_option maxHeartbeats 4000000 in
set_option maxRecDepth 100000 in
theorem c_X2_lead (l : Launch) (D : va_G) (cI cZ cO : ClassId) (sz : Nat) (gR : Nat) (gD : Nat) (gK : Nat → Nat) (gV : Nat → Nat) (r0 : Nat) (as_ : Int64) (o0 : Nat) (o1 : Nat) (o2 : Nat) (o3 : Nat) (o4 : Nat) (o5 : Nat) (o6 : Nat) (xs : Nat → Int32) (ys : Nat → Int32) (rf : Nat → Int32) (bo : Nat → Int32) (pr : Nat → Int32) (bu : Nat → Int32) (n : Nat) (k : Nat) (wd : Int32) (wt : Bool) (h : Nat) (hn : n ≤ 8) (hk : k ≤ 4) (hh : h < n) : xMi l yX2_lead wsX2_lead (3) (64) D (TY cI cZ cO) (xGc gR gD gK gV) [.ref r0, .ref o0, .int (nI h)] [(r0, .inr (2, [.long as_])), (o0, .inr (7, [.ref o1, .ref o2, .ref o3, .ref o4, .ref o5, .ref o6, .int (nI n), .int (nI k), .int wd, .int (bb wt)])), (o1, .inl (cI, 8, .inl xs)), (o2, .inl (cI, 8, .inl ys)), (o3, .inl (cI, 8, .inl rf)), (o4, .inl (cI, 8, .inl bo)), (o5, .inl (cI, 4, .inl pr)), (o6, .inl (cI, 4, .inl bu))] sz (fun (rv_ : Int32) (u : Int64) => rv_ = ((prOf pr k (rf h)) - nI h) ∧ (u = as_ + 100001)) (fun (u : Int64) => [(r0, .inr (2, [.long u])), (o0, .inr (7, [.ref o1, .ref o2, .ref o3, .ref o4, .ref o5, .ref o6, .int (nI n), .int (nI k), .int wd, .int (bb wt)])), (o1, .inl (cI, 8, .inl xs)), (o2, .inl (cI, 8, .inl ys)), (o3, .inl (cI, 8, .inl rf)), (o4, .inl (cI, 8, .inl bo)), (o5, .inl (cI, 4, .inl pr)), (o6, .inl (cI, 4, .inl bu))]) := by
  refine xMi.of (cc := cX2_lead) (maxL := 3) (by decide +kernel) rfl (Nat.le_of_ble_eq_true rfl) ?_
  intro p e s m below meth c A Q H hx hb hml hown hts hA hP hD hK hS hG hret ls hl
  have hown : s.vm.findClass RX2 = some m.cls := hown
  have hP : va_P D vwCl [(r0, .inr (2, [.long as_])), (o0, .inr (7, [.ref o1, .ref o2, .ref o3, .ref o4, .ref o5, .ref o6, .int (nI n), .int (nI k), .int wd, .int (bb wt)])), (o1, .inl (cI, 8, .inl xs)), (o2, .inl (cI, 8, .inl ys)), (o3, .inl (cI, 8, .inl rf)), (o4, .inl (cI, 8, .inl bo)), (o5, .inl (cI, 4, .inl pr)), (o6, .inl (cI, 4, .inl bu))] H := hP
  have hD : va_D A [(r0, .inr (2, [.long as_])), (o0, .inr (7, [.ref o1, .ref o2, .ref o3, .ref o4, .ref o5, .ref o6, .int (nI n), .int (nI k), .int wd, .int (bb wt)])), (o1, .inl (cI, 8, .inl xs)), (o2, .inl (cI, 8, .inl ys)), (o3, .inl (cI, 8, .inl rf)), (o4, .inl (cI, 8, .inl bo)), (o5, .inl (cI, 4, .inl pr)), (o6, .inl (cI, 4, .inl bu))] := hD
  have hl : lv_has ls 3 [(0, .ref r0), (1, .ref o0), (2, .int (nI h))] := hl
  have w_0 := hts (.fieldLink RX2 28 "UnlikeRoofs$Rating" "asked" "J") (List.mem_of_getElem? (i := 1) (by rfl))
  have w_1 := hts (.constantLong RX2 69 (100000)) (List.mem_of_getElem? (i := 2) (by rfl))
  have hin_X2 : ∀ w ∈ wsX20, w ∈ wsX2_lead := fun _ h => List.mem_cons_of_mem _ (List.mem_append_left _ (List.mem_append_right _ h))
  have _h0 : True := trivial
  refine lv_aload_n hx hb dX2_lead_0 rfl (lv_at hl 0 rfl) ?_
  refine lv_dup hx hb dX2_lead_1 rfl ?_
  refine va_get (D := D) (ci := 2) (v := .long as_) (C := RX2) (T := TX2) (N := 1) hx hb hts hin_X2 hown hK hP 0 rfl rfl 0 (by decide) w_0 (fun _ h9 => h9) rfl dX2_lead_2 ?_
  refine lv_ldc2 hx hb hown w_1 dX2_lead_5 ?_
  refine lv_ladd hx hb dX2_lead_8 ?_
  refine va_put (D := D) (ci := 2) (v := .long (as_ + 100000)) (ty := .long) (C := RX2) (T := TX2) (N := 1) hx hb hts hin_X2 tyX2 tyX2_ok nmX2 hown hK hP hD hS 0 rfl rfl 0 (by decide) w_0 (fun _ h9 => h9) rfl (by decide +kernel) rfl rfl (Nat.le_of_ble_eq_true rfl) dX2_lead_9 (fun H locs hP hD hS => ?_)
  have hP : va_P D vwCl [(r0, .inr (2, [.long (as_ + 100000)])), (o0, .inr (7, [.ref o1, .ref o2, .ref o3, .ref o4, .ref o5, .ref o6, .int (nI n), .int (nI k), .int wd, .int (bb wt)])), (o1, .inl (cI, 8, .inl xs)), (o2, .inl (cI, 8, .inl ys)), (o3, .inl (cI, 8, .inl rf)), (o4, .inl (cI, 8, .inl bo)), (o5, .inl (cI, 4, .inl pr)), (o6, .inl (cI, 4, .inl bu))] H := hP
  have hD : va_D A [(r0, .inr (2, [.long (as_ + 100000)])), (o0, .inr (7, [.ref o1, .ref o2, .ref o3, .ref o4, .ref o5, .ref o6, .int (nI n), .int (nI k), .int wd, .int (bb wt)])), (o1, .inl (cI, 8, .inl xs)), (o2, .inl (cI, 8, .inl ys)), (o3, .inl (cI, 8, .inl rf)), (o4, .inl (cI, 8, .inl bo)), (o5, .inl (cI, 4, .inl pr)), (o6, .inl (cI, 4, .inl bu))] := hD
  refine lv_aload_n hx hb dX2_lead_12 rfl (lv_at hl 0 rfl) ?_
  refine lv_aload_n hx hb dX2_lead_13 rfl (lv_at hl 1 rfl) ?_
  refine lv_iload_n hx hb dX2_lead_14 rfl (lv_at hl 2 rfl) ?_
  refine xcV_i (As := [.ref o0, .int (nI h)]) (rest := []) (wc := [(r0, .inr (2, [.long (as_ + 100000)])), (o0, .inr (7, [.ref o1, .ref o2, .ref o3, .ref o4, .ref o5, .ref o6, .int (nI n), .int (nI k), .int wd, .int (bb wt)])), (o1, .inl (cI, 8, .inl xs)), (o2, .inl (cI, 8, .inl ys)), (o3, .inl (cI, 8, .inl rf)), (o4, .inl (cI, 8, .inl bo)), (o5, .inl (cI, 4, .inl pr)), (o6, .inl (cI, 4, .inl bu))]) (wr := []) (w3 := fun (u : Int64) => [(r0, .inr (2, [.long u])), (o0, .inr (7, [.ref o1, .ref o2, .ref o3, .ref o4, .ref o5, .ref o6, .int (nI n), .int (nI k), .int wd, .int (bb wt)])), (o1, .inl (cI, 8, .inl xs)), (o2, .inl (cI, 8, .inl ys)), (o3, .inl (cI, 8, .inl rf)), (o4, .inl (cI, 8, .inl bo)), (o5, .inl (cI, 4, .inl pr)), (o6, .inl (cI, 4, .inl bu))]) ⟨hx, hb, hml, hown, hts⟩ (c_X2_plain l D cI cZ cO H.size gR gD gK gV r0 (as_ + 100000) o0 o1 o2 o3 o4 o5 o6 xs ys rf bo pr bu n k wd wt h (by first | assumption | omega | rfl) (by first | assumption | omega | rfl) (by first | assumption | omega | rfl)) (cwV 2 hts gX2_lead_X2_plain rfl rfl rfl (by decide +kernel) ⟨Nat.le_of_ble_eq_true rfl, Nat.le_of_ble_eq_true rfl⟩) (xGdc gR gD gK gV) (xGdc gR gD gK gV) (fun _ _ _ h => h) hG hP hD hK hS hA [0, 1, 2, 3, 4, 5, 6, 7] [] [0, 1, 2, 3, 4, 5, 6, 7] rfl rfl rfl rfl rfl 0 rfl rfl rfl (fun _ => rfl) rfl rfl hl.1 (Nat.le_of_ble_eq_true rfl) dX2_lead_15 ⟨Nat.zero_le _, Nat.zero_le _⟩ (fun r u H locs hw hP hD hS => ?_)
  obtain ⟨z_1, rfl⟩ : ∃ z, z = u := ⟨_, rfl⟩
  obtain ⟨rfl, hw⟩ := hw
  have hw_15 : z_1 = (as_ + 100000) + 1 := hw
  have hP : va_P D vwCl [(r0, .inr (2, [.long z_1])), (o0, .inr (7, [.ref o1, .ref o2, .ref o3, .ref o4, .ref o5, .ref o6, .int (nI n), .int (nI k), .int wd, .int (bb wt)])), (o1, .inl (cI, 8, .inl xs)), (o2, .inl (cI, 8, .inl ys)), (o3, .inl (cI, 8, .inl rf)), (o4, .inl (cI, 8, .inl bo)), (o5, .inl (cI, 4, .inl pr)), (o6, .inl (cI, 4, .inl bu))] H := hP
  have hD : va_D A [(r0, .inr (2, [.long z_1])), (o0, .inr (7, [.ref o1, .ref o2, .ref o3, .ref o4, .ref o5, .ref o6, .int (nI n), .int (nI k), .int wd, .int (bb wt)])), (o1, .inl (cI, 8, .inl xs)), (o2, .inl (cI, 8, .inl ys)), (o3, .inl (cI, 8, .inl rf)), (o4, .inl (cI, 8, .inl bo)), (o5, .inl (cI, 4, .inl pr)), (o6, .inl (cI, 4, .inl bu))] := hD
  refine lv_iload_n hx hb dX2_lead_18 rfl (lv_at hl 2 rfl) ?_
  refine lv_isub hx hb dX2_lead_19 ?_
  exact hret _ (z_1) _ _ _ _ (rfl) (⟨rfl, by rw [hw_15, Int64.add_assoc]; rfl⟩) hP hD hS dX2_lead_20

set_option maxHeartbeats 4000000 in
set_option maxRecDepth 100000 in
theorem c_X2_of (l : Launch) (D : va_G) (cI cZ cO : ClassId) (sz : Nat) (gR : Nat) (gD : Nat) (gK : Nat → Nat) (gV : Nat → Nat) (r0 : Nat) (as_ : Int64) (o0 : Nat) (o1 : Nat) (o2 : Nat) (o3 : Nat) (o4 : Nat) (o5 : Nat) (o6 : Nat) (xs : Nat → Int32) (ys : Nat → Int32) (rf : Nat → Int32) (bo : Nat → Int32) (pr : Nat → Int32) (bu : Nat → Int32) (n : Nat) (k : Nat) (wd : Int32) (wt : Bool) (kd : Int32) (h : Nat) (hn : n ≤ 8) (hk : k ≤ 4) (hh : h < n) : xMi l yX2_of wsX2_of (5) (112) D (TY cI cZ cO) (xGc gR gD gK gV) [.ref r0, .ref o0, .int kd, .int (nI h)] [(r0, .inr (2, [.long as_])), (o0, .inr (7, [.ref o1, .ref o2, .ref o3, .ref o4, .ref o5, .ref o6, .int (nI n), .int (nI k), .int wd, .int (bb wt)])), (o1, .inl (cI, 8, .inl xs)), (o2, .inl (cI, 8, .inl ys)), (o3, .inl (cI, 8, .inl rf)), (o4, .inl (cI, 8, .inl bo)), (o5, .inl (cI, 4, .inl pr)), (o6, .inl (cI, 4, .inl bu))] sz (fun (rv_ : Int32) (u : Int64) => rv_ = (rtF kd (prOf pr k (rf h)) (prOf bu k (rf h)) (nI (popc (mkM (fun g => arb xs ys h 1 g) n))) wd (nI h)) ∧ (u = as_ + asF kd)) (fun (u : Int64) => [(r0, .inr (2, [.long u])), (o0, .inr (7, [.ref o1, .ref o2, .ref o3, .ref o4, .ref o5, .ref o6, .int (nI n), .int (nI k), .int wd, .int (bb wt)])), (o1, .inl (cI, 8, .inl xs)), (o2, .inl (cI, 8, .inl ys)), (o3, .inl (cI, 8, .inl rf)), (o4, .inl (cI, 8, .inl bo)), (o5, .inl (cI, 4, .inl pr)), (o6, .inl (cI, 4, .inl bu))]) := by
  refine xMi.of (cc := cX2_of) (maxL := 4) (by decide +kernel) rfl (Nat.le_of_ble_eq_true rfl) ?_
  intro p e s m below meth c A Q H hx hb hml hown hts hA hP hD hK hS hG hret ls hl
  have hown : s.vm.findClass RX2 = some m.cls := hown
  have hP : va_P D vwCl [(r0, .inr (2, [.long as_])), (o0, .inr (7, [.ref o1, .ref o2, .ref o3, .ref o4, .ref o5, .ref o6, .int (nI n), .int (nI k), .int wd, .int (bb wt)])), (o1, .inl (cI, 8, .inl xs)), (o2, .inl (cI, 8, .inl ys)), (o3, .inl (cI, 8, .inl rf)), (o4, .inl (cI, 8, .inl bo)), (o5, .inl (cI, 4, .inl pr)), (o6, .inl (cI, 4, .inl bu))] H := hP
  have hD : va_D A [(r0, .inr (2, [.long as_])), (o0, .inr (7, [.ref o1, .ref o2, .ref o3, .ref o4, .ref o5, .ref o6, .int (nI n), .int (nI k), .int wd, .int (bb wt)])), (o1, .inl (cI, 8, .inl xs)), (o2, .inl (cI, 8, .inl ys)), (o3, .inl (cI, 8, .inl rf)), (o4, .inl (cI, 8, .inl bo)), (o5, .inl (cI, 4, .inl pr)), (o6, .inl (cI, 4, .inl bu))] := hD
  have hl : lv_has ls 4 [(0, .ref r0), (1, .ref o0), (2, .int kd), (3, .int (nI h))] := hl
  have _h0 : True := trivial
  refine lv_iload_n hx hb dX2_of_0 rfl (lv_at hl 2 rfl) ?_
  by_cases c_1_1 : kd = 1
  ·
    refine lv_tableIn (off := 35) (tgt := 36) hx hb dX2_of_1 (by rw [c_1_1]; decide) (by rw [c_1_1]; decide) (by rw [c_1_1]; rfl) (by decide) ?_
    refine lv_aload_n hx hb dX2_of_36 rfl (lv_at hl 0 rfl) ?_
    refine lv_aload_n hx hb dX2_of_37 rfl (lv_at hl 1 rfl) ?_
    refine lv_iload_n hx hb dX2_of_38 rfl (lv_at hl 3 rfl) ?_
    refine xcV_i (As := [.ref o0, .int (nI h)]) (rest := []) (wc := [(r0, .inr (2, [.long as_])), (o0, .inr (7, [.ref o1, .ref o2, .ref o3, .ref o4, .ref o5, .ref o6, .int (nI n), .int (nI k), .int wd, .int (bb wt)])), (o1, .inl (cI, 8, .inl xs)), (o2, .inl (cI, 8, .inl ys)), (o3, .inl (cI, 8, .inl rf)), (o4, .inl (cI, 8, .inl bo)), (o5, .inl (cI, 4, .inl pr)), (o6, .inl (cI, 4, .inl bu))]) (wr := []) (w3 := fun (u : Int64) => [(r0, .inr (2, [.long u])), (o0, .inr (7, [.ref o1, .ref o2, .ref o3, .ref o4, .ref o5, .ref o6, .int (nI n), .int (nI k), .int wd, .int (bb wt)])), (o1, .inl (cI, 8, .inl xs)), (o2, .inl (cI, 8, .inl ys)), (o3, .inl (cI, 8, .inl rf)), (o4, .inl (cI, 8, .inl bo)), (o5, .inl (cI, 4, .inl pr)), (o6, .inl (cI, 4, .inl bu))]) ⟨hx, hb, hml, hown, hts⟩ (c_X2_straw l D cI cZ cO H.size gR gD gK gV r0 as_ o0 o1 o2 o3 o4 o5 o6 xs ys rf bo pr bu n k wd wt h (by first | assumption | omega | rfl) (by first | assumption | omega | rfl) (by first | assumption | omega | rfl)) (cwV 2 hts gX2_of_X2_straw rfl rfl rfl (by decide +kernel) ⟨Nat.le_of_ble_eq_true rfl, Nat.le_of_ble_eq_true rfl⟩) (xGdc gR gD gK gV) (xGdc gR gD gK gV) (fun _ _ _ h => h) hG hP hD hK hS hA [0, 1, 2, 3, 4, 5, 6, 7] [] [0, 1, 2, 3, 4, 5, 6, 7] rfl rfl rfl rfl rfl 0 rfl rfl rfl (fun _ => rfl) rfl rfl hl.1 (Nat.le_of_ble_eq_true rfl) dX2_of_39 ⟨Nat.zero_le _, Nat.zero_le _⟩ (fun r u H locs hw hP hD hS => ?_)
    obtain ⟨z_1, rfl⟩ : ∃ z, z = u := ⟨_, rfl⟩
    obtain ⟨rfl, hw⟩ := hw
    have hw_39 : z_1 = as_ + 11 := hw
    have hP : va_P D vwCl [(r0, .inr (2, [.long z_1])), (o0, .inr (7, [.ref o1, .ref o2, .ref o3, .ref o4, .ref o5, .ref o6, .int (nI n), .int (nI k), .int wd, .int (bb wt)])), (o1, .inl (cI, 8, .inl xs)), (o2, .inl (cI, 8, .inl ys)), (o3, .inl (cI, 8, .inl rf)), (o4, .inl (cI, 8, .inl bo)), (o5, .inl (cI, 4, .inl pr)), (o6, .inl (cI, 4, .inl bu))] H := hP
    have hD : va_D A [(r0, .inr (2, [.long z_1])), (o0, .inr (7, [.ref o1, .ref o2, .ref o3, .ref o4, .ref o5, .ref o6, .int (nI n), .int (nI k), .int wd, .int (bb wt)])), (o1, .inl (cI, 8, .inl xs)), (o2, .inl (cI, 8, .inl ys)), (o3, .inl (cI, 8, .inl rf)), (o4, .inl (cI, 8, .inl bo)), (o5, .inl (cI, 4, .inl pr)), (o6, .inl (cI, 4, .inl bu))] := hD
    exact hret _ (z_1) _ _ _ _ (rfl) (⟨by first | (subst c_1_1; rfl) | (subst c_1_2; rfl) | (subst c_1_3; rfl) | (subst c_1_4; rfl) | (subst c_1_5; rfl) | rw [rtF, if_neg c_1_1, if_neg c_1_2, if_neg c_1_3, if_neg c_1_4, if_neg c_1_5], by rw [hw_39]; first | (subst c_1_1; rfl) | (subst c_1_2; rfl) | (subst c_1_3; rfl) | (subst c_1_4; rfl) | (subst c_1_5; rfl) | rw [asF, if_neg c_1_1, if_neg c_1_2, if_neg c_1_3, if_neg c_1_4, if_neg c_1_5]⟩) hP hD hS dX2_of_42
  by_cases c_1_2 : kd = 2
  ·
    refine lv_tableIn (off := 42) (tgt := 43) hx hb dX2_of_1 (by rw [c_1_2]; decide) (by rw [c_1_2]; decide) (by rw [c_1_2]; rfl) (by decide) ?_
    refine lv_aload_n hx hb dX2_of_43 rfl (lv_at hl 0 rfl) ?_
    refine lv_aload_n hx hb dX2_of_44 rfl (lv_at hl 1 rfl) ?_
    refine lv_iload_n hx hb dX2_of_45 rfl (lv_at hl 3 rfl) ?_
    refine xcV_i (As := [.ref o0, .int (nI h)]) (rest := []) (wc := [(r0, .inr (2, [.long as_])), (o0, .inr (7, [.ref o1, .ref o2, .ref o3, .ref o4, .ref o5, .ref o6, .int (nI n), .int (nI k), .int wd, .int (bb wt)])), (o1, .inl (cI, 8, .inl xs)), (o2, .inl (cI, 8, .inl ys)), (o3, .inl (cI, 8, .inl rf)), (o4, .inl (cI, 8, .inl bo)), (o5, .inl (cI, 4, .inl pr)), (o6, .inl (cI, 4, .inl bu))]) (wr := []) (w3 := fun (u : Int64) => [(r0, .inr (2, [.long u])), (o0, .inr (7, [.ref o1, .ref o2, .ref o3, .ref o4, .ref o5, .ref o6, .int (nI n), .int (nI k), .int wd, .int (bb wt)])), (o1, .inl (cI, 8, .inl xs)), (o2, .inl (cI, 8, .inl ys)), (o3, .inl (cI, 8, .inl rf)), (o4, .inl (cI, 8, .inl bo)), (o5, .inl (cI, 4, .inl pr)), (o6, .inl (cI, 4, .inl bu))]) ⟨hx, hb, hml, hown, hts⟩ (c_X2_slate l D cI cZ cO H.size gR gD gK gV r0 as_ o0 o1 o2 o3 o4 o5 o6 xs ys rf bo pr bu n k wd wt h (by first | assumption | omega | rfl) (by first | assumption | omega | rfl) (by first | assumption | omega | rfl)) (cwV 2 hts gX2_of_X2_slate rfl rfl rfl (by decide +kernel) ⟨Nat.le_of_ble_eq_true rfl, Nat.le_of_ble_eq_true rfl⟩) (xGdc gR gD gK gV) (xGdc gR gD gK gV) (fun _ _ _ h => h) hG hP hD hK hS hA [0, 1, 2, 3, 4, 5, 6, 7] [] [0, 1, 2, 3, 4, 5, 6, 7] rfl rfl rfl rfl rfl 0 rfl rfl rfl (fun _ => rfl) rfl rfl hl.1 (Nat.le_of_ble_eq_true rfl) dX2_of_46 ⟨Nat.zero_le _, Nat.zero_le _⟩ (fun r u H locs hw hP hD hS => ?_)
    obtain ⟨z_2, rfl⟩ : ∃ z, z = u := ⟨_, rfl⟩
    obtain ⟨rfl, hw⟩ := hw
    have hw_46 : z_2 = as_ + 101 := hw
    have hP : va_P D vwCl [(r0, .inr (2, [.long z_2])), (o0, .inr (7, [.ref o1, .ref o2, .ref o3, .ref o4, .ref o5, .ref o6, .int (nI n), .int (nI k), .int wd, .int (bb wt)])), (o1, .inl (cI, 8, .inl xs)), (o2, .inl (cI, 8, .inl ys)), (o3, .inl (cI, 8, .inl rf)), (o4, .inl (cI, 8, .inl bo)), (o5, .inl (cI, 4, .inl pr)), (o6, .inl (cI, 4, .inl bu))] H := hP
    have hD : va_D A [(r0, .inr (2, [.long z_2])), (o0, .inr (7, [.ref o1, .ref o2, .ref o3, .ref o4, .ref o5, .ref o6, .int (nI n), .int (nI k), .int wd, .int (bb wt)])), (o1, .inl (cI, 8, .inl xs)), (o2, .inl (cI, 8, .inl ys)), (o3, .inl (cI, 8, .inl rf)), (o4, .inl (cI, 8, .inl bo)), (o5, .inl (cI, 4, .inl pr)), (o6, .inl (cI, 4, .inl bu))] := hD
    exact hret _ (z_2) _ _ _ _ (rfl) (⟨by first | (subst c_1_1; rfl) | (subst c_1_2; rfl) | (subst c_1_3; rfl) | (subst c_1_4; rfl) | (subst c_1_5; rfl) | rw [rtF, if_neg c_1_1, if_neg c_1_2, if_neg c_1_3, if_neg c_1_4, if_neg c_1_5], by rw [hw_46]; first | (subst c_1_1; rfl) | (subst c_1_2; rfl) | (subst c_1_3; rfl) | (subst c_1_4; rfl) | (subst c_1_5; rfl) | rw [asF, if_neg c_1_1, if_neg c_1_2, if_neg c_1_3, if_neg c_1_4, if_neg c_1_5]⟩) hP hD hS dX2_of_49
  by_cases c_1_3 : kd = 3
  ·
    refine lv_tableIn (off := 49) (tgt := 50) hx hb dX2_of_1 (by rw [c_1_3]; decide) (by rw [c_1_3]; decide) (by rw [c_1_3]; rfl) (by decide) ?_
    refine lv_aload_n hx hb dX2_of_50 rfl (lv_at hl 0 rfl) ?_
    refine lv_aload_n hx hb dX2_of_51 rfl (lv_at hl 1 rfl) ?_
    refine lv_iload_n hx hb dX2_of_52 rfl (lv_at hl 3 rfl) ?_
    refine xcV_i (As := [.ref o0, .int (nI h)]) (rest := []) (wc := [(r0, .inr (2, [.long as_])), (o0, .inr (7, [.ref o1, .ref o2, .ref o3, .ref o4, .ref o5, .ref o6, .int (nI n), .int (nI k), .int wd, .int (bb wt)])), (o1, .inl (cI, 8, .inl xs)), (o2, .inl (cI, 8, .inl ys)), (o3, .inl (cI, 8, .inl rf)), (o4, .inl (cI, 8, .inl bo)), (o5, .inl (cI, 4, .inl pr)), (o6, .inl (cI, 4, .inl bu))]) (wr := []) (w3 := fun (u : Int64) => [(r0, .inr (2, [.long u])), (o0, .inr (7, [.ref o1, .ref o2, .ref o3, .ref o4, .ref o5, .ref o6, .int (nI n), .int (nI k), .int wd, .int (bb wt)])), (o1, .inl (cI, 8, .inl xs)), (o2, .inl (cI, 8, .inl ys)), (o3, .inl (cI, 8, .inl rf)), (o4, .inl (cI, 8, .inl bo)), (o5, .inl (cI, 4, .inl pr)), (o6, .inl (cI, 4, .inl bu))]) ⟨hx, hb, hml, hown, hts⟩ (c_X2_mossed l D cI cZ cO H.size gR gD gK gV r0 as_ o0 o1 o2 o3 o4 o5 o6 xs ys rf bo pr bu n k wd wt h (by first | assumption | omega | rfl) (by first | assumption | omega | rfl) (by first | assumption | omega | rfl)) (cwV 2 hts gX2_of_X2_mossed rfl rfl rfl (by decide +kernel) ⟨Nat.le_of_ble_eq_true rfl, Nat.le_of_ble_eq_true rfl⟩) (xGdc gR gD gK gV) (xGdc gR gD gK gV) (fun _ _ _ h => h) hG hP hD hK hS hA [0, 1, 2, 3, 4, 5, 6, 7] [] [0, 1, 2, 3, 4, 5, 6, 7] rfl rfl rfl rfl rfl 0 rfl rfl rfl (fun _ => rfl) rfl rfl hl.1 (Nat.le_of_ble_eq_true rfl) dX2_of_53 ⟨Nat.zero_le _, Nat.zero_le _⟩ (fun r u H locs hw hP hD hS => ?_)
    obtain ⟨z_3, rfl⟩ : ∃ z, z = u := ⟨_, rfl⟩
    obtain ⟨rfl, hw⟩ := hw
    have hw_53 : z_3 = as_ + 1011 := hw
    have hP : va_P D vwCl [(r0, .inr (2, [.long z_3])), (o0, .inr (7, [.ref o1, .ref o2, .ref o3, .ref o4, .ref o5, .ref o6, .int (nI n), .int (nI k), .int wd, .int (bb wt)])), (o1, .inl (cI, 8, .inl xs)), (o2, .inl (cI, 8, .inl ys)), (o3, .inl (cI, 8, .inl rf)), (o4, .inl (cI, 8, .inl bo)), (o5, .inl (cI, 4, .inl pr)), (o6, .inl (cI, 4, .inl bu))] H := hP
    have hD : va_D A [(r0, .inr (2, [.long z_3])), (o0, .inr (7, [.ref o1, .ref o2, .ref o3, .ref o4, .ref o5, .ref o6, .int (nI n), .int (nI k), .int wd, .int (bb wt)])), (o1, .inl (cI, 8, .inl xs)), (o2, .inl (cI, 8, .inl ys)), (o3, .inl (cI, 8, .inl rf)), (o4, .inl (cI, 8, .inl bo)), (o5, .inl (cI, 4, .inl pr)), (o6, .inl (cI, 4, .inl bu))] := hD
    exact hret _ (z_3) _ _ _ _ (rfl) (⟨by first | (subst c_1_1; rfl) | (subst c_1_2; rfl) | (subst c_1_3; rfl) | (subst c_1_4; rfl) | (subst c_1_5; rfl) | rw [rtF, if_neg c_1_1, if_neg c_1_2, if_neg c_1_3, if_neg c_1_4, if_neg c_1_5], by rw [hw_53]; first | (subst c_1_1; rfl) | (subst c_1_2; rfl) | (subst c_1_3; rfl) | (subst c_1_4; rfl) | (subst c_1_5; rfl) | rw [asF, if_neg c_1_1, if_neg c_1_2, if_neg c_1_3, if_neg c_1_4, if_neg c_1_5]⟩) hP hD hS dX2_of_56
  by_cases c_1_4 : kd = 4
  ·
    refine lv_tableIn (off := 56) (tgt := 57) hx hb dX2_of_1 (by rw [c_1_4]; decide) (by rw [c_1_4]; decide) (by rw [c_1_4]; rfl) (by decide) ?_
    refine lv_aload_n hx hb dX2_of_57 rfl (lv_at hl 0 rfl) ?_
    refine lv_aload_n hx hb dX2_of_58 rfl (lv_at hl 1 rfl) ?_
    refine lv_iload_n hx hb dX2_of_59 rfl (lv_at hl 3 rfl) ?_
    refine xcV_i (As := [.ref o0, .int (nI h)]) (rest := []) (wc := [(r0, .inr (2, [.long as_])), (o0, .inr (7, [.ref o1, .ref o2, .ref o3, .ref o4, .ref o5, .ref o6, .int (nI n), .int (nI k), .int wd, .int (bb wt)])), (o1, .inl (cI, 8, .inl xs)), (o2, .inl (cI, 8, .inl ys)), (o3, .inl (cI, 8, .inl rf)), (o4, .inl (cI, 8, .inl bo)), (o5, .inl (cI, 4, .inl pr)), (o6, .inl (cI, 4, .inl bu))]) (wr := []) (w3 := fun (u : Int64) => [(r0, .inr (2, [.long u])), (o0, .inr (7, [.ref o1, .ref o2, .ref o3, .ref o4, .ref o5, .ref o6, .int (nI n), .int (nI k), .int wd, .int (bb wt)])), (o1, .inl (cI, 8, .inl xs)), (o2, .inl (cI, 8, .inl ys)), (o3, .inl (cI, 8, .inl rf)), (o4, .inl (cI, 8, .inl bo)), (o5, .inl (cI, 4, .inl pr)), (o6, .inl (cI, 4, .inl bu))]) ⟨hx, hb, hml, hown, hts⟩ (c_X2_tarred l D cI cZ cO H.size gR gD gK gV r0 as_ o0 o1 o2 o3 o4 o5 o6 xs ys rf bo pr bu n k wd wt h (by first | assumption | omega | rfl) (by first | assumption | omega | rfl) (by first | assumption | omega | rfl)) (cwV 2 hts gX2_of_X2_tarred rfl rfl rfl (by decide +kernel) ⟨Nat.le_of_ble_eq_true rfl, Nat.le_of_ble_eq_true rfl⟩) (xGdc gR gD gK gV) (xGdc gR gD gK gV) (fun _ _ _ h => h) hG hP hD hK hS hA [0, 1, 2, 3, 4, 5, 6, 7] [] [0, 1, 2, 3, 4, 5, 6, 7] rfl rfl rfl rfl rfl 0 rfl rfl rfl (fun _ => rfl) rfl rfl hl.1 (Nat.le_of_ble_eq_true rfl) dX2_of_60 ⟨Nat.zero_le _, Nat.zero_le _⟩ (fun r u H locs hw hP hD hS => ?_)
    obtain ⟨z_4, rfl⟩ : ∃ z, z = u := ⟨_, rfl⟩
    obtain ⟨rfl, hw⟩ := hw
    have hw_60 : z_4 = as_ + 10101 := hw
    have hP : va_P D vwCl [(r0, .inr (2, [.long z_4])), (o0, .inr (7, [.ref o1, .ref o2, .ref o3, .ref o4, .ref o5, .ref o6, .int (nI n), .int (nI k), .int wd, .int (bb wt)])), (o1, .inl (cI, 8, .inl xs)), (o2, .inl (cI, 8, .inl ys)), (o3, .inl (cI, 8, .inl rf)), (o4, .inl (cI, 8, .inl bo)), (o5, .inl (cI, 4, .inl pr)), (o6, .inl (cI, 4, .inl bu))] H := hP
    have hD : va_D A [(r0, .inr (2, [.long z_4])), (o0, .inr (7, [.ref o1, .ref o2, .ref o3, .ref o4, .ref o5, .ref o6, .int (nI n), .int (nI k), .int wd, .int (bb wt)])), (o1, .inl (cI, 8, .inl xs)), (o2, .inl (cI, 8, .inl ys)), (o3, .inl (cI, 8, .inl rf)), (o4, .inl (cI, 8, .inl bo)), (o5, .inl (cI, 4, .inl pr)), (o6, .inl (cI, 4, .inl bu))] := hD
    exact hret _ (z_4) _ _ _ _ (rfl) (⟨by first | (subst c_1_1; rfl) | (subst c_1_2; rfl) | (subst c_1_3; rfl) | (subst c_1_4; rfl) | (subst c_1_5; rfl) | rw [rtF, if_neg c_1_1, if_neg c_1_2, if_neg c_1_3, if_neg c_1_4, if_neg c_1_5], by rw [hw_60]; first | (subst c_1_1; rfl) | (subst c_1_2; rfl) | (subst c_1_3; rfl) | (subst c_1_4; rfl) | (subst c_1_5; rfl) | rw [asF, if_neg c_1_1, if_neg c_1_2, if_neg c_1_3, if_neg c_1_4, if_neg c_1_5]⟩) hP hD hS dX2_of_63
  by_cases c_1_5 : kd = 5
  ·
    refine lv_tableIn (off := 63) (tgt := 64) hx hb dX2_of_1 (by rw [c_1_5]; decide) (by rw [c_1_5]; decide) (by rw [c_1_5]; rfl) (by decide) ?_
    refine lv_aload_n hx hb dX2_of_64 rfl (lv_at hl 0 rfl) ?_
    refine lv_aload_n hx hb dX2_of_65 rfl (lv_at hl 1 rfl) ?_
    refine lv_iload_n hx hb dX2_of_66 rfl (lv_at hl 3 rfl) ?_
    refine xcV_i (As := [.ref o0, .int (nI h)]) (rest := []) (wc := [(r0, .inr (2, [.long as_])), (o0, .inr (7, [.ref o1, .ref o2, .ref o3, .ref o4, .ref o5, .ref o6, .int (nI n), .int (nI k), .int wd, .int (bb wt)])), (o1, .inl (cI, 8, .inl xs)), (o2, .inl (cI, 8, .inl ys)), (o3, .inl (cI, 8, .inl rf)), (o4, .inl (cI, 8, .inl bo)), (o5, .inl (cI, 4, .inl pr)), (o6, .inl (cI, 4, .inl bu))]) (wr := []) (w3 := fun (u : Int64) => [(r0, .inr (2, [.long u])), (o0, .inr (7, [.ref o1, .ref o2, .ref o3, .ref o4, .ref o5, .ref o6, .int (nI n), .int (nI k), .int wd, .int (bb wt)])), (o1, .inl (cI, 8, .inl xs)), (o2, .inl (cI, 8, .inl ys)), (o3, .inl (cI, 8, .inl rf)), (o4, .inl (cI, 8, .inl bo)), (o5, .inl (cI, 4, .inl pr)), (o6, .inl (cI, 4, .inl bu))]) ⟨hx, hb, hml, hown, hts⟩ (c_X2_lead l D cI cZ cO H.size gR gD gK gV r0 as_ o0 o1 o2 o3 o4 o5 o6 xs ys rf bo pr bu n k wd wt h (by first | assumption | omega | rfl) (by first | assumption | omega | rfl) (by first | assumption | omega | rfl)) (cwV 2 hts gX2_of_X2_lead rfl rfl rfl (by decide +kernel) ⟨Nat.le_of_ble_eq_true rfl, Nat.le_of_ble_eq_true rfl⟩) (xGdc gR gD gK gV) (xGdc gR gD gK gV) (fun _ _ _ h => h) hG hP hD hK hS hA [0, 1, 2, 3, 4, 5, 6, 7] [] [0, 1, 2, 3, 4, 5, 6, 7] rfl rfl rfl rfl rfl 0 rfl rfl rfl (fun _ => rfl) rfl rfl hl.1 (Nat.le_of_ble_eq_true rfl) dX2_of_67 ⟨Nat.zero_le _, Nat.zero_le _⟩ (fun r u H locs hw hP hD hS => ?_)
    obtain ⟨z_5, rfl⟩ : ∃ z, z = u := ⟨_, rfl⟩
    obtain ⟨rfl, hw⟩ := hw
    have hw_67 : z_5 = as_ + 100001 := hw
    have hP : va_P D vwCl [(r0, .inr (2, [.long z_5])), (o0, .inr (7, [.ref o1, .ref o2, .ref o3, .ref o4, .ref o5, .ref o6, .int (nI n), .int (nI k), .int wd, .int (bb wt)])), (o1, .inl (cI, 8, .inl xs)), (o2, .inl (cI, 8, .inl ys)), (o3, .inl (cI, 8, .inl rf)), (o4, .inl (cI, 8, .inl bo)), (o5, .inl (cI, 4, .inl pr)), (o6, .inl (cI, 4, .inl bu))] H := hP
    have hD : va_D A [(r0, .inr (2, [.long z_5])), (o0, .inr (7, [.ref o1, .ref o2, .ref o3, .ref o4, .ref o5, .ref o6, .int (nI n), .int (nI k), .int wd, .int (bb wt)])), (o1, .inl (cI, 8, .inl xs)), (o2, .inl (cI, 8, .inl ys)), (o3, .inl (cI, 8, .inl rf)), (o4, .inl (cI, 8, .inl bo)), (o5, .inl (cI, 4, .inl pr)), (o6, .inl (cI, 4, .inl bu))] := hD
    exact hret _ (z_5) _ _ _ _ (rfl) (⟨by first | (subst c_1_1; rfl) | (subst c_1_2; rfl) | (subst c_1_3; rfl) | (subst c_1_4; rfl) | (subst c_1_5; rfl) | rw [rtF, if_neg c_1_1, if_neg c_1_2, if_neg c_1_3, if_neg c_1_4, if_neg c_1_5], by rw [hw_67]; first | (subst c_1_1; rfl) | (subst c_1_2; rfl) | (subst c_1_3; rfl) | (subst c_1_4; rfl) | (subst c_1_5; rfl) | rw [asF, if_neg c_1_1, if_neg c_1_2, if_neg c_1_3, if_neg c_1_4, if_neg c_1_5]⟩) hP hD hS dX2_of_70
  have hto : kd.toInt < 1 ∨ 5 < kd.toInt := by
    by_cases q : kd.toInt < 1
    · exact Or.inl q
    · refine Or.inr (Int.not_le.1 (fun q2 => ?_))
      rcases (show kd.toInt = 1 ∨ kd.toInt = 2 ∨ kd.toInt = 3 ∨ kd.toInt = 4 ∨ kd.toInt = 5 by omega) with q3 | q3 | q3 | q3 | q3
      · exact c_1_1 (Int32.toInt_inj.1 q3)
      · exact c_1_2 (Int32.toInt_inj.1 q3)
      · exact c_1_3 (Int32.toInt_inj.1 q3)
      · exact c_1_4 (Int32.toInt_inj.1 q3)
      · exact c_1_5 (Int32.toInt_inj.1 q3)
  refine lv_tableOut (tgt := 71) hx hb dX2_of_1 hto (by decide) ?_
  refine lv_aload_n hx hb dX2_of_71 rfl (lv_at hl 0 rfl) ?_
  refine lv_aload_n hx hb dX2_of_72 rfl (lv_at hl 1 rfl) ?_
  refine lv_iload_n hx hb dX2_of_73 rfl (lv_at hl 3 rfl) ?_
  refine xcV_i (As := [.ref o0, .int (nI h)]) (rest := []) (wc := [(r0, .inr (2, [.long as_])), (o0, .inr (7, [.ref o1, .ref o2, .ref o3, .ref o4, .ref o5, .ref o6, .int (nI n), .int (nI k), .int wd, .int (bb wt)])), (o1, .inl (cI, 8, .inl xs)), (o2, .inl (cI, 8, .inl ys)), (o3, .inl (cI, 8, .inl rf)), (o4, .inl (cI, 8, .inl bo)), (o5, .inl (cI, 4, .inl pr)), (o6, .inl (cI, 4, .inl bu))]) (wr := []) (w3 := fun (u : Int64) => [(r0, .inr (2, [.long u])), (o0, .inr (7, [.ref o1, .ref o2, .ref o3, .ref o4, .ref o5, .ref o6, .int (nI n), .int (nI k), .int wd, .int (bb wt)])), (o1, .inl (cI, 8, .inl xs)), (o2, .inl (cI, 8, .inl ys)), (o3, .inl (cI, 8, .inl rf)), (o4, .inl (cI, 8, .inl bo)), (o5, .inl (cI, 4, .inl pr)), (o6, .inl (cI, 4, .inl bu))]) ⟨hx, hb, hml, hown, hts⟩ (c_X2_plain l D cI cZ cO H.size gR gD gK gV r0 as_ o0 o1 o2 o3 o4 o5 o6 xs ys rf bo pr bu n k wd wt h (by first | assumption | omega | rfl) (by first | assumption | omega | rfl) (by first | assumption | omega | rfl)) (cwV 2 hts gX2_of_X2_plain rfl rfl rfl (by decide +kernel) ⟨Nat.le_of_ble_eq_true rfl, Nat.le_of_ble_eq_true rfl⟩) (xGdc gR gD gK gV) (xGdc gR gD gK gV) (fun _ _ _ h => h) hG hP hD hK hS hA [0, 1, 2, 3, 4, 5, 6, 7] [] [0, 1, 2, 3, 4, 5, 6, 7] rfl rfl rfl rfl rfl 0 rfl rfl rfl (fun _ => rfl) rfl rfl hl.1 (Nat.le_of_ble_eq_true rfl) dX2_of_74 ⟨Nat.zero_le _, Nat.zero_le _⟩ (fun r u H locs hw hP hD hS => ?_)
  obtain ⟨z_6, rfl⟩ : ∃ z, z = u := ⟨_, rfl⟩
  obtain ⟨rfl, hw⟩ := hw
  have hw_74 : z_6 = as_ + 1 := hw
  have hP : va_P D vwCl [(r0, .inr (2, [.long z_6])), (o0, .inr (7, [.ref o1, .ref o2, .ref o3, .ref o4, .ref o5, .ref o6, .int (nI n), .int (nI k), .int wd, .int (bb wt)])), (o1, .inl (cI, 8, .inl xs)), (o2, .inl (cI, 8, .inl ys)), (o3, .inl (cI, 8, .inl rf)), (o4, .inl (cI, 8, .inl bo)), (o5, .inl (cI, 4, .inl pr)), (o6, .inl (cI, 4, .inl bu))] H := hP
  have hD : va_D A [(r0, .inr (2, [.long z_6])), (o0, .inr (7, [.ref o1, .ref o2, .ref o3, .ref o4, .ref o5, .ref o6, .int (nI n), .int (nI k), .int wd, .int (bb wt)])), (o1, .inl (cI, 8, .inl xs)), (o2, .inl (cI, 8, .inl ys)), (o3, .inl (cI, 8, .inl rf)), (o4, .inl (cI, 8, .inl bo)), (o5, .inl (cI, 4, .inl pr)), (o6, .inl (cI, 4, .inl bu))] := hD
  exact hret _ (z_6) _ _ _ _ (rfl) (⟨by first | (subst c_1_1; rfl) | (subst c_1_2; rfl) | (subst c_1_3; rfl) | (subst c_1_4; rfl) | (subst c_1_5; rfl) | rw [rtF, if_neg c_1_1, if_neg c_1_2, if_neg c_1_3, if_neg c_1_4, if_neg c_1_5], by rw [hw_74]; first | (subst c_1_1; rfl) | (subst c_1_2; rfl) | (subst c_1_3; rfl) | (subst c_1_4; rfl) | (subst c_1_5; rfl) | rw [asF, if_neg c_1_1, if_neg c_1_2, if_neg c_1_3, if_neg c_1_4, if_neg c_1_5]⟩) hP hD hS dX2_of_77
