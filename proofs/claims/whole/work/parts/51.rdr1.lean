set_option maxHeartbeats 4000000 in
set_option maxRecDepth 100000 in
theorem c_X3_number (l : Launch) (D : va_G) (cI cZ cO : ClassId) (sz : Nat) (gR : Nat) (gD : Nat) (gK : Nat → Nat) (gV : Nat → Nat) (k0 : Nat) (k1 : Nat) (k2 : Nat) (k3 : Nat) (tz : Nat) (ta : Nat) (ts_ : Nat) (tn_ : Nat) (tv_ : Nat) (tkk : Nat → Nat) (tkv : Nat → Nat) (tks : Nat → Nat) (lo_ : Int32) (hi_ : Int32) (hz : tz ≤ 301) (ha1 : ta + 1 < tz) (hkk : tkk (ta + 1) < 100) : xMi l yX3_number wsX3_number (2) (43) D (TY cI cZ cO) (xGc gR gD gK gV) [.ref k0, .int lo_, .int hi_] [(k0, .inr (6, [.ref k1, .ref k2, .ref k3, .int (nI tz), .int (nI ta), .int (nI ts_), .int (nI tn_), .int (nI tv_)])), (k1, .inl (cI, 301, .inl (rI tkk))), (k2, .inl (cI, 301, .inl (rI tkv))), (k3, .inl (cI, 301, .inl (rI tks)))] sz (fun (rv_ : Int32) (u : Unit) => rv_ = (if tkk (ta + 1) = 3 ∧ inr (nI (tkv (ta + 1))) lo_ hi_ = true then nI (tkv (ta + 1)) else (-9)) ∧ (True)) (fun (u : Unit) => [(k0, .inr (6, [.ref k1, .ref k2, .ref k3, .int (nI tz), .int (nI (ta + 1)), .int (nI ts_), .int (nI tn_), .int (nI tv_)])), (k1, .inl (cI, 301, .inl (rI tkk))), (k2, .inl (cI, 301, .inl (rI tkv))), (k3, .inl (cI, 301, .inl (rI tks)))]) := by
  refine xMi.of (cc := cX3_number) (maxL := 3) (by decide +kernel) rfl (Nat.le_of_ble_eq_true rfl) ?_
  intro p e s m below meth c A Q H hx hb hml hown hts hA hP hD hK hS hG hret ls hl
  have hown : s.vm.findClass RX3 = some m.cls := hown
  have hP : va_P D vwCl [(k0, .inr (6, [.ref k1, .ref k2, .ref k3, .int (nI tz), .int (nI ta), .int (nI ts_), .int (nI tn_), .int (nI tv_)])), (k1, .inl (cI, 301, .inl (rI tkk))), (k2, .inl (cI, 301, .inl (rI tkv))), (k3, .inl (cI, 301, .inl (rI tks)))] H := hP
  have hD : va_D A [(k0, .inr (6, [.ref k1, .ref k2, .ref k3, .int (nI tz), .int (nI ta), .int (nI ts_), .int (nI tn_), .int (nI tv_)])), (k1, .inl (cI, 301, .inl (rI tkk))), (k2, .inl (cI, 301, .inl (rI tkv))), (k3, .inl (cI, 301, .inl (rI tks)))] := hD
  have hl : lv_has ls 3 [(0, .ref k0), (1, .int lo_), (2, .int hi_)] := hl
  have _h0 : True := trivial
  refine lv_aload_n hx hb dX3_number_0 rfl (lv_at hl 0 rfl) ?_
  refine xcV_v (As := []) (rest := []) (wc := [(k0, .inr (6, [.ref k1, .ref k2, .ref k3, .int (nI tz), .int (nI ta), .int (nI ts_), .int (nI tn_), .int (nI tv_)])), (k1, .inl (cI, 301, .inl (rI tkk))), (k2, .inl (cI, 301, .inl (rI tkv))), (k3, .inl (cI, 301, .inl (rI tks)))]) (wr := []) (w3 := fun (u : Nat) => [(k0, .inr (6, [.ref k1, .ref k2, .ref k3, .int (nI tz), .int (nI u), .int (nI ts_), .int (nI tn_), .int (nI tv_)])), (k1, .inl (cI, 301, .inl (rI tkk))), (k2, .inl (cI, 301, .inl (rI tkv))), (k3, .inl (cI, 301, .inl (rI tks)))]) ⟨hx, hb, hml, hown, hts⟩ (c_X7_advance l D cI cZ cO H.size gR gD gK gV k0 k1 k2 k3 tz ta ts_ tn_ tv_ tkk tkv tks (by first | assumption | omega | rfl) (by omega)) (cwV 0 hts gX3_number_X7_advance rfl rfl rfl (by decide +kernel) ⟨Nat.le_of_ble_eq_true rfl, Nat.le_of_ble_eq_true rfl⟩) (xGdc gR gD gK gV) (xGdc gR gD gK gV) (fun _ _ _ h => h) hG hP hD hK hS hA [0, 1, 2, 3] [] [0, 1, 2, 3] rfl rfl rfl rfl rfl 0 rfl rfl rfl (fun _ => rfl) rfl rfl hl.1 (Nat.le_of_ble_eq_true rfl) dX3_number_1 ⟨Nat.zero_le _, Nat.zero_le _⟩ (fun u H locs hw hP hD hS => ?_)
  obtain ⟨z_1, rfl⟩ : ∃ z, z = u := ⟨_, rfl⟩
  have hw_1 : z_1 = (if ta + 1 < tz then ta + 1 else ta) := hw
  have hP : va_P D vwCl [(k0, .inr (6, [.ref k1, .ref k2, .ref k3, .int (nI tz), .int (nI z_1), .int (nI ts_), .int (nI tn_), .int (nI tv_)])), (k1, .inl (cI, 301, .inl (rI tkk))), (k2, .inl (cI, 301, .inl (rI tkv))), (k3, .inl (cI, 301, .inl (rI tks)))] H := hP
  have hD : va_D A [(k0, .inr (6, [.ref k1, .ref k2, .ref k3, .int (nI tz), .int (nI z_1), .int (nI ts_), .int (nI tn_), .int (nI tv_)])), (k1, .inl (cI, 301, .inl (rI tkk))), (k2, .inl (cI, 301, .inl (rI tkv))), (k3, .inl (cI, 301, .inl (rI tks)))] := hD
  obtain rfl := (hw_1).trans (if_pos ha1)
  refine lv_aload_n hx hb dX3_number_4 rfl (lv_at hl 0 rfl) ?_
  refine lv_iload_n hx hb dX3_number_5 rfl (lv_at hl 1 rfl) ?_
  refine lv_iload_n hx hb dX3_number_6 rfl (lv_at hl 2 rfl) ?_
  refine xcV_i (As := [.int lo_, .int hi_]) (rest := []) (wc := [(k0, .inr (6, [.ref k1, .ref k2, .ref k3, .int (nI tz), .int (nI (ta + 1)), .int (nI ts_), .int (nI tn_), .int (nI tv_)])), (k1, .inl (cI, 301, .inl (rI tkk))), (k2, .inl (cI, 301, .inl (rI tkv))), (k3, .inl (cI, 301, .inl (rI tks)))]) (wr := []) (w3 := fun (u : Unit) => [(k0, .inr (6, [.ref k1, .ref k2, .ref k3, .int (nI tz), .int (nI (ta + 1)), .int (nI ts_), .int (nI tn_), .int (nI tv_)])), (k1, .inl (cI, 301, .inl (rI tkk))), (k2, .inl (cI, 301, .inl (rI tkv))), (k3, .inl (cI, 301, .inl (rI tks)))]) ⟨hx, hb, hml, hown, hts⟩ (c_X7_numberFrom l D cI cZ cO H.size gR gD gK gV k0 k1 k2 k3 tz (ta + 1) ts_ tn_ tv_ tkk tkv tks lo_ hi_ (by first | assumption | omega | rfl) (ha1) (hkk)) (cwV 2 hts gX3_number_X7_numberFrom rfl rfl rfl (by decide +kernel) ⟨Nat.le_of_ble_eq_true rfl, Nat.le_of_ble_eq_true rfl⟩) (xGdc gR gD gK gV) (xGdc gR gD gK gV) (fun _ _ _ h => h) hG hP hD hK hS hA [0, 1, 2, 3] [] [0, 1, 2, 3] rfl rfl rfl rfl rfl 0 rfl rfl rfl (fun _ => rfl) rfl rfl hl.1 (Nat.le_of_ble_eq_true rfl) dX3_number_7 ⟨Nat.zero_le _, Nat.zero_le _⟩ (fun r u H locs hw hP hD hS => ?_)
  obtain ⟨rfl, hw⟩ := hw
  have hw_7 : True := hw
  have hP : va_P D vwCl [(k0, .inr (6, [.ref k1, .ref k2, .ref k3, .int (nI tz), .int (nI (ta + 1)), .int (nI ts_), .int (nI tn_), .int (nI tv_)])), (k1, .inl (cI, 301, .inl (rI tkk))), (k2, .inl (cI, 301, .inl (rI tkv))), (k3, .inl (cI, 301, .inl (rI tks)))] H := hP
  have hD : va_D A [(k0, .inr (6, [.ref k1, .ref k2, .ref k3, .int (nI tz), .int (nI (ta + 1)), .int (nI ts_), .int (nI tn_), .int (nI tv_)])), (k1, .inl (cI, 301, .inl (rI tkk))), (k2, .inl (cI, 301, .inl (rI tkv))), (k3, .inl (cI, 301, .inl (rI tks)))] := hD
  exact hret _ () _ _ _ _ (rfl) (⟨rfl, trivial⟩) hP hD hS dX3_number_10

set_option maxHeartbeats 4000000 in
set_option maxRecDepth 100000 in
theorem c_X3_stop (l : Launch) (D : va_G) (cI cZ cO : ClassId) (sz : Nat) (gR : Nat) (gD : Nat) (gK : Nat → Nat) (gV : Nat → Nat) (k0 : Nat) (k1 : Nat) (k2 : Nat) (k3 : Nat) (tz : Nat) (ta : Nat) (ts_ : Nat) (tn_ : Nat) (tv_ : Nat) (tkk : Nat → Nat) (tkv : Nat → Nat) (tks : Nat → Nat) (hz : tz ≤ 301) (ha1 : ta + 1 < tz) (hkk : tkk (ta + 1) < 100) : xMi l yX3_stop wsX3_stop (1) (20) D (TY cI cZ cO) (xGc gR gD gK gV) [.ref k0] [(k0, .inr (6, [.ref k1, .ref k2, .ref k3, .int (nI tz), .int (nI ta), .int (nI ts_), .int (nI tn_), .int (nI tv_)])), (k1, .inl (cI, 301, .inl (rI tkk))), (k2, .inl (cI, 301, .inl (rI tkv))), (k3, .inl (cI, 301, .inl (rI tks)))] sz (fun (rv_ : Int32) (u : Unit) => rv_ = (bb (decide (tkk (ta + 1) = 2))) ∧ (True)) (fun (u : Unit) => [(k0, .inr (6, [.ref k1, .ref k2, .ref k3, .int (nI tz), .int (nI (ta + 1)), .int (nI ts_), .int (nI tn_), .int (nI tv_)])), (k1, .inl (cI, 301, .inl (rI tkk))), (k2, .inl (cI, 301, .inl (rI tkv))), (k3, .inl (cI, 301, .inl (rI tks)))]) := by
  refine xMi.of (cc := cX3_stop) (maxL := 1) (by decide +kernel) rfl (Nat.le_of_ble_eq_true rfl) ?_
  intro p e s m below meth c A Q H hx hb hml hown hts hA hP hD hK hS hG hret ls hl
  have hown : s.vm.findClass RX3 = some m.cls := hown
  have hP : va_P D vwCl [(k0, .inr (6, [.ref k1, .ref k2, .ref k3, .int (nI tz), .int (nI ta), .int (nI ts_), .int (nI tn_), .int (nI tv_)])), (k1, .inl (cI, 301, .inl (rI tkk))), (k2, .inl (cI, 301, .inl (rI tkv))), (k3, .inl (cI, 301, .inl (rI tks)))] H := hP
  have hD : va_D A [(k0, .inr (6, [.ref k1, .ref k2, .ref k3, .int (nI tz), .int (nI ta), .int (nI ts_), .int (nI tn_), .int (nI tv_)])), (k1, .inl (cI, 301, .inl (rI tkk))), (k2, .inl (cI, 301, .inl (rI tkv))), (k3, .inl (cI, 301, .inl (rI tks)))] := hD
  have hl : lv_has ls 1 [(0, .ref k0)] := hl
  have _h0 : True := trivial
  refine lv_aload_n hx hb dX3_stop_0 rfl (lv_at hl 0 rfl) ?_
  refine xcV_v (As := []) (rest := []) (wc := [(k0, .inr (6, [.ref k1, .ref k2, .ref k3, .int (nI tz), .int (nI ta), .int (nI ts_), .int (nI tn_), .int (nI tv_)])), (k1, .inl (cI, 301, .inl (rI tkk))), (k2, .inl (cI, 301, .inl (rI tkv))), (k3, .inl (cI, 301, .inl (rI tks)))]) (wr := []) (w3 := fun (u : Nat) => [(k0, .inr (6, [.ref k1, .ref k2, .ref k3, .int (nI tz), .int (nI u), .int (nI ts_), .int (nI tn_), .int (nI tv_)])), (k1, .inl (cI, 301, .inl (rI tkk))), (k2, .inl (cI, 301, .inl (rI tkv))), (k3, .inl (cI, 301, .inl (rI tks)))]) ⟨hx, hb, hml, hown, hts⟩ (c_X7_advance l D cI cZ cO H.size gR gD gK gV k0 k1 k2 k3 tz ta ts_ tn_ tv_ tkk tkv tks (by first | assumption | omega | rfl) (by omega)) (cwV 0 hts gX3_stop_X7_advance rfl rfl rfl (by decide +kernel) ⟨Nat.le_of_ble_eq_true rfl, Nat.le_of_ble_eq_true rfl⟩) (xGdc gR gD gK gV) (xGdc gR gD gK gV) (fun _ _ _ h => h) hG hP hD hK hS hA [0, 1, 2, 3] [] [0, 1, 2, 3] rfl rfl rfl rfl rfl 0 rfl rfl rfl (fun _ => rfl) rfl rfl hl.1 (Nat.le_of_ble_eq_true rfl) dX3_stop_1 ⟨Nat.zero_le _, Nat.zero_le _⟩ (fun u H locs hw hP hD hS => ?_)
  obtain ⟨z_1, rfl⟩ : ∃ z, z = u := ⟨_, rfl⟩
  have hw_1 : z_1 = (if ta + 1 < tz then ta + 1 else ta) := hw
  have hP : va_P D vwCl [(k0, .inr (6, [.ref k1, .ref k2, .ref k3, .int (nI tz), .int (nI z_1), .int (nI ts_), .int (nI tn_), .int (nI tv_)])), (k1, .inl (cI, 301, .inl (rI tkk))), (k2, .inl (cI, 301, .inl (rI tkv))), (k3, .inl (cI, 301, .inl (rI tks)))] H := hP
  have hD : va_D A [(k0, .inr (6, [.ref k1, .ref k2, .ref k3, .int (nI tz), .int (nI z_1), .int (nI ts_), .int (nI tn_), .int (nI tv_)])), (k1, .inl (cI, 301, .inl (rI tkk))), (k2, .inl (cI, 301, .inl (rI tkv))), (k3, .inl (cI, 301, .inl (rI tks)))] := hD
  obtain rfl := (hw_1).trans (if_pos ha1)
  refine lv_aload_n hx hb dX3_stop_4 rfl (lv_at hl 0 rfl) ?_
  refine xcV_i (As := []) (rest := []) (wc := [(k0, .inr (6, [.ref k1, .ref k2, .ref k3, .int (nI tz), .int (nI (ta + 1)), .int (nI ts_), .int (nI tn_), .int (nI tv_)])), (k1, .inl (cI, 301, .inl (rI tkk))), (k2, .inl (cI, 301, .inl (rI tkv))), (k3, .inl (cI, 301, .inl (rI tks)))]) (wr := []) (w3 := fun (u : Unit) => [(k0, .inr (6, [.ref k1, .ref k2, .ref k3, .int (nI tz), .int (nI (ta + 1)), .int (nI ts_), .int (nI tn_), .int (nI tv_)])), (k1, .inl (cI, 301, .inl (rI tkk))), (k2, .inl (cI, 301, .inl (rI tkv))), (k3, .inl (cI, 301, .inl (rI tks)))]) ⟨hx, hb, hml, hown, hts⟩ (c_X7_kind l D cI cZ cO H.size gR gD gK gV k0 k1 k2 k3 tz (ta + 1) ts_ tn_ tv_ tkk tkv tks (by first | assumption | omega | rfl) (ha1)) (cwV 0 hts gX3_stop_X7_kind rfl rfl rfl (by decide +kernel) ⟨Nat.le_of_ble_eq_true rfl, Nat.le_of_ble_eq_true rfl⟩) (xGdc gR gD gK gV) (xGdc gR gD gK gV) (fun _ _ _ h => h) hG hP hD hK hS hA [0, 1, 2, 3] [] [0, 1, 2, 3] rfl rfl rfl rfl rfl 0 rfl rfl rfl (fun _ => rfl) rfl rfl hl.1 (Nat.le_of_ble_eq_true rfl) dX3_stop_5 ⟨Nat.zero_le _, Nat.zero_le _⟩ (fun r u H locs hw hP hD hS => ?_)
  obtain ⟨rfl, hw⟩ := hw
  have hw_5 : True := hw
  have hP : va_P D vwCl [(k0, .inr (6, [.ref k1, .ref k2, .ref k3, .int (nI tz), .int (nI (ta + 1)), .int (nI ts_), .int (nI tn_), .int (nI tv_)])), (k1, .inl (cI, 301, .inl (rI tkk))), (k2, .inl (cI, 301, .inl (rI tkv))), (k3, .inl (cI, 301, .inl (rI tks)))] H := hP
  have hD : va_D A [(k0, .inr (6, [.ref k1, .ref k2, .ref k3, .int (nI tz), .int (nI (ta + 1)), .int (nI ts_), .int (nI tn_), .int (nI tv_)])), (k1, .inl (cI, 301, .inl (rI tkk))), (k2, .inl (cI, 301, .inl (rI tkv))), (k3, .inl (cI, 301, .inl (rI tks)))] := hD
  refine lv_iconst (v := (2 : Int32)) hx hb dX3_stop_8 (by decide) ?_
  refine lv_icmp_ne (tgt := 16) hx hb dX3_stop_9 (by decide) (fun c_9 => ?_) (fun c_9 => ?_)
  ·
    have n_9 : ¬ (tkk (ta + 1)) = 2 := fun q => c_9 (congrArg nI q)
    refine lv_iconst (v := (0 : Int32)) hx hb dX3_stop_16 (by decide) ?_
    exact hret _ () _ _ _ _ (rfl) (⟨by first | exact bbT n_9 | exact bbF n_9, trivial⟩) hP hD hS dX3_stop_17
  ·
    have n_9 : (tkk (ta + 1)) = 2 := (nI_eq (show (tkk (ta + 1)) < 2147483648 by omega) (show 2 < 2147483648 by omega)).1 c_9
    refine lv_iconst (v := (1 : Int32)) hx hb dX3_stop_12 (by decide) ?_
    refine lv_goto (tgt := 17) hx hb dX3_stop_13 (by decide) ?_
    exact hret _ () _ _ _ _ (rfl) (⟨by first | exact bbT n_9 | exact bbF n_9, trivial⟩) hP hD hS dX3_stop_17
