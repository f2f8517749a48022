set_option maxHeartbeats 4000000 in
set_option maxRecDepth 100000 in
theorem c_X8_sparked (l : Launch) (D : va_G) (cI cZ cO : ClassId) (sz : Nat) (gR : Nat) (gD : Nat) (gK : Nat → Nat) (gV : Nat → Nat) (o0 : Nat) (o1 : Nat) (o2 : Nat) (o3 : Nat) (o4 : Nat) (o5 : Nat) (o6 : Nat) (xs : Nat → Int32) (ys : Nat → Int32) (rf : Nat → Int32) (bo : Nat → Int32) (pr : Nat → Int32) (bu : Nat → Int32) (n : Nat) (k : Nat) (wd : Int32) (wt : Bool) (h : Nat) (wn : Nat) (hn : n ≤ 8) (hh : h < n) (hwn : wn ≤ 4) : xMi l yX8_sparked wsX8_sparked (1) (23) D (TY cI cZ cO) (xGc gR gD gK gV) [.ref o0, .int (nI h), .int (nI wn)] [(o0, .inr (7, [.ref o1, .ref o2, .ref o3, .ref o4, .ref o5, .ref o6, .int (nI n), .int (nI k), .int wd, .int (bb wt)])), (o1, .inl (cI, 8, .inl xs)), (o2, .inl (cI, 8, .inl ys)), (o3, .inl (cI, 8, .inl rf)), (o4, .inl (cI, 8, .inl bo)), (o5, .inl (cI, 4, .inl pr)), (o6, .inl (cI, 4, .inl bu))] sz (fun (rv_ : Int32) (u : Nat) => rv_ = (nI u) ∧ (spkM n xs ys h wn u)) (fun (u : Nat) => [(o0, .inr (7, [.ref o1, .ref o2, .ref o3, .ref o4, .ref o5, .ref o6, .int (nI n), .int (nI k), .int wd, .int (bb wt)])), (o1, .inl (cI, 8, .inl xs)), (o2, .inl (cI, 8, .inl ys)), (o3, .inl (cI, 8, .inl rf)), (o4, .inl (cI, 8, .inl bo)), (o5, .inl (cI, 4, .inl pr)), (o6, .inl (cI, 4, .inl bu))]) := by
  refine xMi.of (cc := cX8_sparked) (maxL := 3) (by decide +kernel) rfl (Nat.le_of_ble_eq_true rfl) ?_
  intro p e s m below meth c A Q H hx hb hml hown hts hA hP hD hK hS hG hret ls hl
  have hown : s.vm.findClass RX8 = some m.cls := hown
  have hP : va_P D vwCl [(o0, .inr (7, [.ref o1, .ref o2, .ref o3, .ref o4, .ref o5, .ref o6, .int (nI n), .int (nI k), .int wd, .int (bb wt)])), (o1, .inl (cI, 8, .inl xs)), (o2, .inl (cI, 8, .inl ys)), (o3, .inl (cI, 8, .inl rf)), (o4, .inl (cI, 8, .inl bo)), (o5, .inl (cI, 4, .inl pr)), (o6, .inl (cI, 4, .inl bu))] H := hP
  have hD : va_D A [(o0, .inr (7, [.ref o1, .ref o2, .ref o3, .ref o4, .ref o5, .ref o6, .int (nI n), .int (nI k), .int wd, .int (bb wt)])), (o1, .inl (cI, 8, .inl xs)), (o2, .inl (cI, 8, .inl ys)), (o3, .inl (cI, 8, .inl rf)), (o4, .inl (cI, 8, .inl bo)), (o5, .inl (cI, 4, .inl pr)), (o6, .inl (cI, 4, .inl bu))] := hD
  have hl : lv_has ls 3 [(0, .ref o0), (1, .int (nI h)), (2, .int (nI wn))] := hl
  have w_0 := hts (.fieldLink RX8 9 "UnlikeRoofs$Town" "xs" "[I") (List.mem_of_getElem? (i := 1) (by rfl))
  have w_1 := hts (.fieldLink RX8 15 "UnlikeRoofs$Town" "ys" "[I") (List.mem_of_getElem? (i := 2) (by rfl))
  have wn_0 : (Cond.fieldLinkNest RX8 67 "UnlikeRoofs" "RIGHTWARD" "[I" "UnlikeRoofs").before ([.ref o0, .int (nI h), .int (nI wn)] : List Value).toArray s = true := va_Nw.use rfl (hG.1 (.fieldLinkNest RX8 67 "UnlikeRoofs" "RIGHTWARD" "[I" "UnlikeRoofs") (List.mem_of_getElem? (i := 32) (by rfl)))
  have wn_1 : (Cond.fieldLinkNest RX8 70 "UnlikeRoofs" "DOWNWARD" "[I" "UnlikeRoofs").before ([.ref o0, .int (nI h), .int (nI wn)] : List Value).toArray s = true := va_Nw.use rfl (hG.1 (.fieldLinkNest RX8 70 "UnlikeRoofs" "DOWNWARD" "[I" "UnlikeRoofs") (List.mem_of_getElem? (i := 33) (by rfl)))
  have hin_X8 : ∀ w ∈ wsX80, w ∈ wsX8_sparked := fun _ h => List.mem_cons_of_mem _ (List.mem_append_right _ h)
  have _h0 : True := trivial
  refine lv_aload_n hx hb dX8_sparked_0 rfl (lv_at hl 0 rfl) ?_
  refine lv_iload_n hx hb dX8_sparked_1 rfl (lv_at hl 1 rfl) ?_
  refine xcV_i (As := [.int (nI h)]) (rest := []) (wc := [(o0, .inr (7, [.ref o1, .ref o2, .ref o3, .ref o4, .ref o5, .ref o6, .int (nI n), .int (nI k), .int wd, .int (bb wt)])), (o1, .inl (cI, 8, .inl xs)), (o2, .inl (cI, 8, .inl ys)), (o3, .inl (cI, 8, .inl rf)), (o4, .inl (cI, 8, .inl bo)), (o5, .inl (cI, 4, .inl pr)), (o6, .inl (cI, 4, .inl bu))]) (wr := []) (w3 := fun (u : Unit) => [(o0, .inr (7, [.ref o1, .ref o2, .ref o3, .ref o4, .ref o5, .ref o6, .int (nI n), .int (nI k), .int wd, .int (bb wt)])), (o1, .inl (cI, 8, .inl xs)), (o2, .inl (cI, 8, .inl ys)), (o3, .inl (cI, 8, .inl rf)), (o4, .inl (cI, 8, .inl bo)), (o5, .inl (cI, 4, .inl pr)), (o6, .inl (cI, 4, .inl bu))]) ⟨hx, hb, hml, hown, hts⟩ (c_X8_hasHouse_in l D cI cZ cO H.size o0 o1 o2 o3 o4 o5 o6 xs ys rf bo pr bu n k wd wt h (by first | assumption | omega | rfl) (by first | assumption | omega | rfl)) (cwV 1 hts gX8_sparked_X8_hasHouse rfl rfl rfl (by decide +kernel) ⟨Nat.le_of_ble_eq_true rfl, Nat.le_of_ble_eq_true rfl⟩) (xGdc gR gD gK gV) xGd0 (fun _ _ _ _ => trivial) hG hP hD hK hS hA [0, 1, 2, 3, 4, 5, 6] [] [0, 1, 2, 3, 4, 5, 6] rfl rfl rfl rfl rfl 0 rfl rfl rfl (fun _ => rfl) rfl rfl hl.1 (Nat.le_of_ble_eq_true rfl) dX8_sparked_2 ⟨Nat.zero_le _, Nat.zero_le _⟩ (fun r u H locs hw hP hD hS => ?_)
  obtain ⟨rfl, hw⟩ := hw
  have hw_2 : True := hw
  have hP : va_P D vwCl [(o0, .inr (7, [.ref o1, .ref o2, .ref o3, .ref o4, .ref o5, .ref o6, .int (nI n), .int (nI k), .int wd, .int (bb wt)])), (o1, .inl (cI, 8, .inl xs)), (o2, .inl (cI, 8, .inl ys)), (o3, .inl (cI, 8, .inl rf)), (o4, .inl (cI, 8, .inl bo)), (o5, .inl (cI, 4, .inl pr)), (o6, .inl (cI, 4, .inl bu))] H := hP
  have hD : va_D A [(o0, .inr (7, [.ref o1, .ref o2, .ref o3, .ref o4, .ref o5, .ref o6, .int (nI n), .int (nI k), .int wd, .int (bb wt)])), (o1, .inl (cI, 8, .inl xs)), (o2, .inl (cI, 8, .inl ys)), (o3, .inl (cI, 8, .inl rf)), (o4, .inl (cI, 8, .inl bo)), (o5, .inl (cI, 4, .inl pr)), (o6, .inl (cI, 4, .inl bu))] := hD
  refine lv_if_eq (tgt := 18) hx hb dX8_sparked_5 (by decide) (fun c_5 => ?_) (fun c_5 => ?_)
  ·
    exact absurd c_5 (by decide)
  ·
    refine lv_iload_n hx hb dX8_sparked_8 rfl (lv_at hl 2 rfl) ?_
    refine lv_iconst (v := (1 : Int32)) hx hb dX8_sparked_9 (by decide) ?_
    refine lv_icmp_lt (tgt := 18) hx hb dX8_sparked_10 (by decide) (fun c_10 => ?_) (fun c_10 => ?_)
    ·
      have n_10 : wn < 1 := (nI_ltI (show wn < 2147483648 by omega) (show 1 < 2147483648 by omega)).1 c_10
      refine lv_iconst (v := (0 : Int32)) hx hb dX8_sparked_18 (by decide) ?_
      exact hret _ (0) _ _ _ _ (rfl) (⟨rfl, Or.inl ⟨by omega, rfl⟩⟩) hP hD hS dX8_sparked_19
    ·
      have n_10 : 1 ≤ wn := Nat.le_of_not_lt (fun q => c_10 ((nI_ltI (show wn < 2147483648 by omega) (show 1 < 2147483648 by omega)).2 q))
      refine lv_iload_n hx hb dX8_sparked_13 rfl (lv_at hl 2 rfl) ?_
      refine lv_iconst (v := (4 : Int32)) hx hb dX8_sparked_14 (by decide) ?_
      refine lv_icmp_le (tgt := 20) hx hb dX8_sparked_15 (by decide) (fun c_15 => ?_) (fun c_15 => ?_)
      ·
        have n_15 : wn ≤ 4 := (nI_leI (show wn < 2147483648 by omega) (show 4 < 2147483648 by omega)).1 c_15
        refine lv_aload_n hx hb dX8_sparked_20 rfl (lv_at hl 0 rfl) ?_
        refine lv_aload_n hx hb dX8_sparked_21 rfl (lv_at hl 0 rfl) ?_
        refine va_get (D := D) (ci := 7) (v := .ref o1) (C := RX8) (T := TX8) (N := 10) hx hb hts hin_X8 hown hK hP 0 rfl rfl 0 (by decide) w_0 (fun _ h9 => h9) rfl dX8_sparked_22 ?_
        refine lv_iload_n hx hb dX8_sparked_25 rfl (lv_at hl 1 rfl) ?_
        refine x_iald hx hb hK hP 1 0 rfl rfl (j := h) (by omega) (by decide) dX8_sparked_26 ?_
        refine lv_iconst (v := (2 : Int32)) hx hb dX8_sparked_27 (by decide) ?_
        refine va_getsN hx hb hG.2.1.1 hS hown wn_0 (fun _ h9 => h9) dX8_sparked_28 ?_
        refine lv_iload_n hx hb dX8_sparked_31 rfl (lv_at hl 2 rfl) ?_
        refine x_ti hx hb (f := rgt) hG.2.1.2 hS (j := wn) (by omega) (by decide) dX8_sparked_32 ?_
        refine lv_imul hx hb dX8_sparked_33 ?_
        refine lv_iadd hx hb dX8_sparked_34 ?_
        refine lv_aload_n hx hb dX8_sparked_35 rfl (lv_at hl 0 rfl) ?_
        refine va_get (D := D) (ci := 7) (v := .ref o2) (C := RX8) (T := TX8) (N := 10) hx hb hts hin_X8 hown hK hP 0 rfl rfl 1 (by decide) w_1 (fun _ h9 => h9) rfl dX8_sparked_36 ?_
        refine lv_iload_n hx hb dX8_sparked_39 rfl (lv_at hl 1 rfl) ?_
        refine x_iald hx hb hK hP 2 0 rfl rfl (j := h) (by omega) (by decide) dX8_sparked_40 ?_
        refine lv_iconst (v := (2 : Int32)) hx hb dX8_sparked_41 (by decide) ?_
        refine va_getsN hx hb hG.2.2.1.1 hS hown wn_1 (fun _ h9 => h9) dX8_sparked_42 ?_
        refine lv_iload_n hx hb dX8_sparked_45 rfl (lv_at hl 2 rfl) ?_
        refine x_ti hx hb (f := dwn) hG.2.2.1.2 hS (j := wn) (by omega) (by decide) dX8_sparked_46 ?_
        refine lv_imul hx hb dX8_sparked_47 ?_
        refine lv_iadd hx hb dX8_sparked_48 ?_
        refine xcV_i (As := [.int ((xs h) + ((2 : Int32) * (rgt wn))), .int ((ys h) + ((2 : Int32) * (dwn wn)))]) (rest := []) (wc := [(o0, .inr (7, [.ref o1, .ref o2, .ref o3, .ref o4, .ref o5, .ref o6, .int (nI n), .int (nI k), .int wd, .int (bb wt)])), (o1, .inl (cI, 8, .inl xs)), (o2, .inl (cI, 8, .inl ys)), (o3, .inl (cI, 8, .inl rf)), (o4, .inl (cI, 8, .inl bo)), (o5, .inl (cI, 4, .inl pr)), (o6, .inl (cI, 4, .inl bu))]) (wr := []) (w3 := fun (u : Nat) => [(o0, .inr (7, [.ref o1, .ref o2, .ref o3, .ref o4, .ref o5, .ref o6, .int (nI n), .int (nI k), .int wd, .int (bb wt)])), (o1, .inl (cI, 8, .inl xs)), (o2, .inl (cI, 8, .inl ys)), (o3, .inl (cI, 8, .inl rf)), (o4, .inl (cI, 8, .inl bo)), (o5, .inl (cI, 4, .inl pr)), (o6, .inl (cI, 4, .inl bu))]) ⟨hx, hb, hml, hown, hts⟩ (c_X8_bitAt l D cI cZ cO H.size o0 o1 o2 o3 o4 o5 o6 xs ys rf bo pr bu n k wd wt ((xs h) + ((2 : Int32) * (rgt wn))) ((ys h) + ((2 : Int32) * (dwn wn))) (by first | assumption | omega | rfl)) (cwV 2 hts gX8_sparked_X8_bitAt rfl rfl rfl (by decide +kernel) ⟨Nat.le_of_ble_eq_true rfl, Nat.le_of_ble_eq_true rfl⟩) (xGdc gR gD gK gV) xGd0 (fun _ _ _ _ => trivial) hG hP hD hK hS hA [0, 1, 2, 3, 4, 5, 6] [] [0, 1, 2, 3, 4, 5, 6] rfl rfl rfl rfl rfl 0 rfl rfl rfl (fun _ => rfl) rfl rfl hl.1 (Nat.le_of_ble_eq_true rfl) dX8_sparked_49 ⟨Nat.zero_le _, Nat.zero_le _⟩ (fun r u H locs hw hP hD hS => ?_)
        obtain ⟨z_1, rfl⟩ : ∃ z, z = u := ⟨_, rfl⟩
        obtain ⟨rfl, hw⟩ := hw
        have hw_49 : fstB xs ys ((xs h) + ((2 : Int32) * (rgt wn))) ((ys h) + ((2 : Int32) * (dwn wn))) n z_1 := hw
        have hP : va_P D vwCl [(o0, .inr (7, [.ref o1, .ref o2, .ref o3, .ref o4, .ref o5, .ref o6, .int (nI n), .int (nI k), .int wd, .int (bb wt)])), (o1, .inl (cI, 8, .inl xs)), (o2, .inl (cI, 8, .inl ys)), (o3, .inl (cI, 8, .inl rf)), (o4, .inl (cI, 8, .inl bo)), (o5, .inl (cI, 4, .inl pr)), (o6, .inl (cI, 4, .inl bu))] H := hP
        have hD : va_D A [(o0, .inr (7, [.ref o1, .ref o2, .ref o3, .ref o4, .ref o5, .ref o6, .int (nI n), .int (nI k), .int wd, .int (bb wt)])), (o1, .inl (cI, 8, .inl xs)), (o2, .inl (cI, 8, .inl ys)), (o3, .inl (cI, 8, .inl rf)), (o4, .inl (cI, 8, .inl bo)), (o5, .inl (cI, 4, .inl pr)), (o6, .inl (cI, 4, .inl bu))] := hD
        exact hret _ (z_1) _ _ _ _ (rfl) (⟨rfl, Or.inr ⟨by omega, hw_49⟩⟩) hP hD hS dX8_sparked_52
      ·
        have n_15 : 4 < wn := Nat.lt_of_not_le (fun q => c_15 ((nI_leI (show wn < 2147483648 by omega) (show 4 < 2147483648 by omega)).2 q))
        exact absurd n_15 (by omega)

set_option maxHeartbeats 4000000 in
set_option maxRecDepth 100000 in
theorem c_X0_spread (l : Launch) (D : va_G) (cI cZ cO : ClassId) (sz : Nat) (gR : Nat) (gD : Nat) (gK : Nat → Nat) (gV : Nat → Nat) (f0 : Nat) (f1 : Nat) (bt : Int32) (lc : Int32) (si : Nat → Int32) (o0 : Nat) (o1 : Nat) (o2 : Nat) (o3 : Nat) (o4 : Nat) (o5 : Nat) (o6 : Nat) (xs : Nat → Int32) (ys : Nat → Int32) (rf : Nat → Int32) (bo : Nat → Int32) (pr : Nat → Int32) (bu : Nat → Int32) (n : Nat) (k : Nat) (wd : Int32) (wt : Bool) (al : Nat) (wn : Nat) (a0 : Nat) (tr : Nat → Int32) (hn : n ≤ 8) (hc : cOK n xs ys) (ha : a0 < n) (hwn : wn ≤ 4) (hal : al = mkM (fun g => decide (tr g = tr a0)) n) : xMv l yX0_spread wsX0_spread (3) (68) D (TY cI cZ cO) (xGc gR gD gK gV) [.ref f0, .ref o0, .int (nI al), .int (nI wn), .int (nI a0)] [(f0, .inr (0, [.ref f1, .int bt, .int lc])), (f1, .inl (cI, 8, .inl si)), (o0, .inr (7, [.ref o1, .ref o2, .ref o3, .ref o4, .ref o5, .ref o6, .int (nI n), .int (nI k), .int wd, .int (bb wt)])), (o1, .inl (cI, 8, .inl xs)), (o2, .inl (cI, 8, .inl ys)), (o3, .inl (cI, 8, .inl rf)), (o4, .inl (cI, 8, .inl bo)), (o5, .inl (cI, 4, .inl pr)), (o6, .inl (cI, 4, .inl bu))] sz (fun (u : (Nat → Int32) × Nat × Nat) => ((∀ h, h < 8 → (u.1) h = fS tr xs ys n (nI wn) a0 98 h) ∧ (u.2.1) = mkM (litB (fS tr xs ys n (nI wn) a0 98)) n ∧ lastP (fS tr xs ys n (nI wn) a0 98) n (u.2.2))) (fun (u : (Nat → Int32) × Nat × Nat) => [(f0, .inr (0, [.ref f1, .int (nI (u.2.1)), .int (nI (u.2.2))])), (f1, .inl (cI, 8, .inl (u.1))), (o0, .inr (7, [.ref o1, .ref o2, .ref o3, .ref o4, .ref o5, .ref o6, .int (nI n), .int (nI k), .int wd, .int (bb wt)])), (o1, .inl (cI, 8, .inl xs)), (o2, .inl (cI, 8, .inl ys)), (o3, .inl (cI, 8, .inl rf)), (o4, .inl (cI, 8, .inl bo)), (o5, .inl (cI, 4, .inl pr)), (o6, .inl (cI, 4, .inl bu))]) := by
  refine xMv.of (cc := cX0_spread) (maxL := 9) (by decide +kernel) rfl (Nat.le_of_ble_eq_true rfl) ?_
  intro p e s m below meth c A Q H hx hb hml hown hts hA hP hD hK hS hG hret ls hl
  have hown : s.vm.findClass RX0 = some m.cls := hown
  have hP : va_P D vwCl [(f0, .inr (0, [.ref f1, .int bt, .int lc])), (f1, .inl (cI, 8, .inl si)), (o0, .inr (7, [.ref o1, .ref o2, .ref o3, .ref o4, .ref o5, .ref o6, .int (nI n), .int (nI k), .int wd, .int (bb wt)])), (o1, .inl (cI, 8, .inl xs)), (o2, .inl (cI, 8, .inl ys)), (o3, .inl (cI, 8, .inl rf)), (o4, .inl (cI, 8, .inl bo)), (o5, .inl (cI, 4, .inl pr)), (o6, .inl (cI, 4, .inl bu))] H := hP
  have hD : va_D A [(f0, .inr (0, [.ref f1, .int bt, .int lc])), (f1, .inl (cI, 8, .inl si)), (o0, .inr (7, [.ref o1, .ref o2, .ref o3, .ref o4, .ref o5, .ref o6, .int (nI n), .int (nI k), .int wd, .int (bb wt)])), (o1, .inl (cI, 8, .inl xs)), (o2, .inl (cI, 8, .inl ys)), (o3, .inl (cI, 8, .inl rf)), (o4, .inl (cI, 8, .inl bo)), (o5, .inl (cI, 4, .inl pr)), (o6, .inl (cI, 4, .inl bu))] := hD
  have hl : lv_has ls 9 [(0, .ref f0), (1, .ref o0), (2, .int (nI al)), (3, .int (nI wn)), (4, .int (nI a0))] := hl
  have w_0 := hts (.fieldLink RX0 9 "UnlikeRoofs$Fire" "since" "[I") (List.mem_of_getElem? (i := 1) (by rfl))
  have w_1 := hts (.fieldLink RX0 36 "UnlikeRoofs$Fire" "burnt" "I") (List.mem_of_getElem? (i := 2) (by rfl))
  have w_2 := hts (.fieldLink RX0 39 "UnlikeRoofs$Fire" "lastCaught" "I") (List.mem_of_getElem? (i := 3) (by rfl))
  have hin_X0 : ∀ w ∈ wsX00, w ∈ wsX0_spread := fun _ h => List.mem_cons_of_mem _ (List.mem_append_left _ (List.mem_append_right _ h))
  have _h0 : True := trivial
  refine lv_iconst (v := (0 : Int32)) hx hb dX0_spread_0 (by decide) ?_
  refine lv_istore (lv' := [(5, .int (0 : Int32)), (0, .ref f0), (1, .ref o0), (2, .int (nI al)), (3, .int (nI wn)), (4, .int (nI a0))]) hx hb dX0_spread_1 hl (by decide) rfl (fun ls hl => ?_)
  have L_3 : ∀ (fuel : Nat) (t : Nat → Int32) (i : Nat), (i ≤ 8) → (∀ h, h < i → t h = (-9)) → (8 - i) < fuel → ∀ (H : Heap) (locs : List Loc), va_P D vwCl [(f0, .inr (0, [.ref f1, .int bt, .int lc])), (f1, .inl (cI, 8, .inl t)), (o0, .inr (7, [.ref o1, .ref o2, .ref o3, .ref o4, .ref o5, .ref o6, .int (nI n), .int (nI k), .int wd, .int (bb wt)])), (o1, .inl (cI, 8, .inl xs)), (o2, .inl (cI, 8, .inl ys)), (o3, .inl (cI, 8, .inl rf)), (o4, .inl (cI, 8, .inl bo)), (o5, .inl (cI, 4, .inl pr)), (o6, .inl (cI, 4, .inl bu))] H → va_D A [(f0, .inr (0, [.ref f1, .int bt, .int lc])), (f1, .inl (cI, 8, .inl t)), (o0, .inr (7, [.ref o1, .ref o2, .ref o3, .ref o4, .ref o5, .ref o6, .int (nI n), .int (nI k), .int wd, .int (bb wt)])), (o1, .inl (cI, 8, .inl xs)), (o2, .inl (cI, 8, .inl ys)), (o3, .inl (cI, 8, .inl rf)), (o4, .inl (cI, 8, .inl bo)), (o5, .inl (cI, 4, .inl pr)), (o6, .inl (cI, 4, .inl bu))] → va_S A s.heap H locs → ∀ ls : Array Slot, lv_has ls 9 [(5, .int (nI i)), (0, .ref f0), (1, .ref o0), (2, .int (nI al)), (3, .int (nI wn)), (4, .int (nI a0))] → W p l e (xRm 3 68) s m ([.ref f0, .ref o0, .int (nI al), .int (nI wn), .int (nI a0)] : List Value).toArray below meth c H locs 0 0 Q (F0 m 3 ls []) := by
    intro fuel
    induction fuel with
    | zero =>
      intro t i hi ht hm
      exact absurd hm (Nat.not_lt_zero _)
    | succ fuel ih_3 =>
      intro t i hi ht hm_3 H locs hP hD hS ls hl
      refine lv_iload hx hb dX0_spread_3 (lv_at hl 0 rfl) ?_
      refine lv_aload_n hx hb dX0_spread_5 rfl (lv_at hl 1 rfl) ?_
      refine va_get (D := D) (ci := 0) (v := .ref f1) (C := RX0) (T := TX0) (N := 3) hx hb hts hin_X0 hown hK hP 0 rfl rfl 0 (by decide) w_0 (fun _ h9 => h9) rfl dX0_spread_6 ?_
      refine va_alen (v := (8 : Int32)) hx hb hK hP 1 0 rfl rfl rfl dX0_spread_9 ?_
      refine lv_icmp_ge (tgt := 28) hx hb dX0_spread_10 (by decide) (fun c_10 => ?_) (fun c_10 => ?_)
      ·
        have n_10 : 8 ≤ i := (nI_leI (show 8 < 2147483648 by omega) (show i < 2147483648 by omega)).1 c_10
        refine lv_aload_n hx hb dX0_spread_28 rfl (lv_at hl 1 rfl) ?_
        refine lv_iconst (v := (0 : Int32)) hx hb dX0_spread_29 (by decide) ?_
        refine va_put (D := D) (ci := 0) (v := .int (0 : Int32)) (ty := .int) (C := RX0) (T := TX0) (N := 3) hx hb hts hin_X0 tyX0 tyX0_ok nmX0 hown hK hP hD hS 0 rfl rfl 1 (by decide) w_1 (fun _ h9 => h9) rfl (by decide +kernel) rfl rfl (Nat.le_of_ble_eq_true rfl) dX0_spread_30 (fun H locs hP hD hS => ?_)
        have hP : va_P D vwCl [(f0, .inr (0, [.ref f1, .int (0 : Int32), .int lc])), (f1, .inl (cI, 8, .inl t)), (o0, .inr (7, [.ref o1, .ref o2, .ref o3, .ref o4, .ref o5, .ref o6, .int (nI n), .int (nI k), .int wd, .int (bb wt)])), (o1, .inl (cI, 8, .inl xs)), (o2, .inl (cI, 8, .inl ys)), (o3, .inl (cI, 8, .inl rf)), (o4, .inl (cI, 8, .inl bo)), (o5, .inl (cI, 4, .inl pr)), (o6, .inl (cI, 4, .inl bu))] H := hP
        have hD : va_D A [(f0, .inr (0, [.ref f1, .int (0 : Int32), .int lc])), (f1, .inl (cI, 8, .inl t)), (o0, .inr (7, [.ref o1, .ref o2, .ref o3, .ref o4, .ref o5, .ref o6, .int (nI n), .int (nI k), .int wd, .int (bb wt)])), (o1, .inl (cI, 8, .inl xs)), (o2, .inl (cI, 8, .inl ys)), (o3, .inl (cI, 8, .inl rf)), (o4, .inl (cI, 8, .inl bo)), (o5, .inl (cI, 4, .inl pr)), (o6, .inl (cI, 4, .inl bu))] := hD
        refine lv_iconst (v := (1 : Int32)) hx hb dX0_spread_33 (by decide) ?_
        refine lv_iload hx hb dX0_spread_34 (lv_at hl 5 rfl) ?_
        refine lv_ishl hx hb dX0_spread_36 ?_
        refine lv_topr (x' := nI (2 ^ a0)) (sh1 (by omega)) ?_
        refine lv_istore (lv' := [(5, .int (nI (2 ^ a0))), (0, .ref f0), (1, .ref o0), (2, .int (nI al)), (3, .int (nI wn)), (4, .int (nI a0))]) hx hb dX0_spread_37 hl (by decide) rfl (fun ls hl => ?_)
        refine lv_iconst (v := (0 : Int32)) hx hb dX0_spread_39 (by decide) ?_
        refine lv_istore (lv' := [(6, .int (0 : Int32)), (5, .int (nI (2 ^ a0))), (0, .ref f0), (1, .ref o0), (2, .int (nI al)), (3, .int (nI wn)), (4, .int (nI a0))]) hx hb dX0_spread_40 hl (by decide) rfl (fun ls hl => ?_)
        have L_42 : ∀ (fuel : Nat) (t : Nat → Int32) (bm : Nat) (lcv : Int32) (ca : Nat) (mi : Nat), (mi ≤ 8) → (ca = mkM (rng tr xs ys n (nI wn) a0 mi) n) → (bm = mkM (prv tr xs ys n (nI wn) a0 mi) n) → (∀ h, h < 8 → t h = (if prv tr xs ys n (nI wn) a0 mi h = true then fS tr xs ys n (nI wn) a0 mi h else (-9))) → (∀ k, k < mi → ∃ g, g < n ∧ rng tr xs ys n (nI wn) a0 k g = true) → (1 ≤ mi → lcv = nI (mi - 1)) → (8 - mi) < fuel → ∀ (H : Heap) (locs : List Loc), va_P D vwCl [(f0, .inr (0, [.ref f1, .int (nI bm), .int lcv])), (f1, .inl (cI, 8, .inl t)), (o0, .inr (7, [.ref o1, .ref o2, .ref o3, .ref o4, .ref o5, .ref o6, .int (nI n), .int (nI k), .int wd, .int (bb wt)])), (o1, .inl (cI, 8, .inl xs)), (o2, .inl (cI, 8, .inl ys)), (o3, .inl (cI, 8, .inl rf)), (o4, .inl (cI, 8, .inl bo)), (o5, .inl (cI, 4, .inl pr)), (o6, .inl (cI, 4, .inl bu))] H → va_D A [(f0, .inr (0, [.ref f1, .int (nI bm), .int lcv])), (f1, .inl (cI, 8, .inl t)), (o0, .inr (7, [.ref o1, .ref o2, .ref o3, .ref o4, .ref o5, .ref o6, .int (nI n), .int (nI k), .int wd, .int (bb wt)])), (o1, .inl (cI, 8, .inl xs)), (o2, .inl (cI, 8, .inl ys)), (o3, .inl (cI, 8, .inl rf)), (o4, .inl (cI, 8, .inl bo)), (o5, .inl (cI, 4, .inl pr)), (o6, .inl (cI, 4, .inl bu))] → va_S A s.heap H locs → ∀ ls : Array Slot, lv_has ls 9 [(6, .int (nI mi)), (5, .int (nI ca)), (0, .ref f0), (1, .ref o0), (2, .int (nI al)), (3, .int (nI wn)), (4, .int (nI a0))] → W p l e (xRm 3 68) s m ([.ref f0, .ref o0, .int (nI al), .int (nI wn), .int (nI a0)] : List Value).toArray below meth c H locs 0 0 Q (F0 m 42 ls []) := by
          intro fuel
          induction fuel with
          | zero =>
            intro t bm lcv ca mi hmi hca hbm ht hne hlc hm
            exact absurd hm (Nat.not_lt_zero _)
          | succ fuel ih_42 =>
            intro t bm lcv ca mi hmi hca hbm ht hne hlc hm_42 H locs hP hD hS ls hl
            have hca8 : ca < 256 := by rw [hca]; exact mkM_256 hn
            refine lv_iload hx hb dX0_spread_42 (lv_at hl 0 rfl) ?_
            refine lv_bipush (v := (8 : Int32)) hx hb dX0_spread_44 (by decide) ?_
            refine lv_icmp_ge (tgt := 151) hx hb dX0_spread_46 (by decide) (fun c_46 => ?_) (fun c_46 => ?_)
            ·
              have n_46 : 8 ≤ mi := (nI_leI (show 8 < 2147483648 by omega) (show mi < 2147483648 by omega)).1 c_46
              have hend : mi = 8 ∨ mkM (rng tr xs ys n (nI wn) a0 mi) n = 0 := Or.inl (by omega)
              obtain ⟨-, -, -, hm1, -⟩ := ring_end hn ha hmi hne hend
              obtain rfl := hlc hm1
              exact hret (t, bm, mi - 1) _ _ _ _ (spr_fin hn ha hmi hne hend ht hbm) hP hD hS dX0_spread_151
            ·
              have n_46 : mi < 8 := Nat.lt_of_not_le (fun q => c_46 ((nI_leI (show 8 < 2147483648 by omega) (show mi < 2147483648 by omega)).2 q))
              refine lv_iload hx hb dX0_spread_49 (lv_at hl 1 rfl) ?_
              refine lv_if_eq (tgt := 151) hx hb dX0_spread_51 (by decide) (fun c_51 => ?_) (fun c_51 => ?_)
              ·
                have n_51 : ca = 0 := (nI_eq (show ca < 2147483648 by omega) (show 0 < 2147483648 by omega)).1 c_51
                have hend : mi = 8 ∨ mkM (rng tr xs ys n (nI wn) a0 mi) n = 0 := Or.inr (hca ▸ n_51)
                obtain ⟨-, -, -, hm1, -⟩ := ring_end hn ha hmi hne hend
                obtain rfl := hlc hm1
                exact hret (t, bm, mi - 1) _ _ _ _ (spr_fin hn ha hmi hne hend ht hbm) hP hD hS dX0_spread_151
              ·
                have n_51 : ¬ ca = 0 := fun q => c_51 (congrArg nI q)
                refine lv_aload_n hx hb dX0_spread_54 rfl (lv_at hl 2 rfl) ?_
                refine lv_dup hx hb dX0_spread_55 rfl ?_
                refine va_get (D := D) (ci := 0) (v := .int (nI bm)) (C := RX0) (T := TX0) (N := 3) hx hb hts hin_X0 hown hK hP 0 rfl rfl 1 (by decide) w_1 (fun _ h9 => h9) rfl dX0_spread_56 ?_
                refine lv_iload hx hb dX0_spread_59 (lv_at hl 1 rfl) ?_
                refine lv_ior hx hb dX0_spread_61 ?_
                refine lv_topr (x' := nI (bm ||| ca)) (fa_or _ _) ?_
                refine va_put (D := D) (ci := 0) (v := .int (nI (bm ||| ca))) (ty := .int) (C := RX0) (T := TX0) (N := 3) hx hb hts hin_X0 tyX0 tyX0_ok nmX0 hown hK hP hD hS 0 rfl rfl 1 (by decide) w_1 (fun _ h9 => h9) rfl (by decide +kernel) rfl rfl (Nat.le_of_ble_eq_true rfl) dX0_spread_62 (fun H locs hP hD hS => ?_)
                have hP : va_P D vwCl [(f0, .inr (0, [.ref f1, .int (nI (bm ||| ca)), .int lcv])), (f1, .inl (cI, 8, .inl t)), (o0, .inr (7, [.ref o1, .ref o2, .ref o3, .ref o4, .ref o5, .ref o6, .int (nI n), .int (nI k), .int wd, .int (bb wt)])), (o1, .inl (cI, 8, .inl xs)), (o2, .inl (cI, 8, .inl ys)), (o3, .inl (cI, 8, .inl rf)), (o4, .inl (cI, 8, .inl bo)), (o5, .inl (cI, 4, .inl pr)), (o6, .inl (cI, 4, .inl bu))] H := hP
                have hD : va_D A [(f0, .inr (0, [.ref f1, .int (nI (bm ||| ca)), .int lcv])), (f1, .inl (cI, 8, .inl t)), (o0, .inr (7, [.ref o1, .ref o2, .ref o3, .ref o4, .ref o5, .ref o6, .int (nI n), .int (nI k), .int wd, .int (bb wt)])), (o1, .inl (cI, 8, .inl xs)), (o2, .inl (cI, 8, .inl ys)), (o3, .inl (cI, 8, .inl rf)), (o4, .inl (cI, 8, .inl bo)), (o5, .inl (cI, 4, .inl pr)), (o6, .inl (cI, 4, .inl bu))] := hD
                refine lv_aload_n hx hb dX0_spread_65 rfl (lv_at hl 2 rfl) ?_
                refine lv_iload hx hb dX0_spread_66 (lv_at hl 0 rfl) ?_
                refine va_put (D := D) (ci := 0) (v := .int (nI mi)) (ty := .int) (C := RX0) (T := TX0) (N := 3) hx hb hts hin_X0 tyX0 tyX0_ok nmX0 hown hK hP hD hS 0 rfl rfl 2 (by decide) w_2 (fun _ h9 => h9) rfl (by decide +kernel) rfl rfl (Nat.le_of_ble_eq_true rfl) dX0_spread_68 (fun H locs hP hD hS => ?_)
                have hP : va_P D vwCl [(f0, .inr (0, [.ref f1, .int (nI (bm ||| ca)), .int (nI mi)])), (f1, .inl (cI, 8, .inl t)), (o0, .inr (7, [.ref o1, .ref o2, .ref o3, .ref o4, .ref o5, .ref o6, .int (nI n), .int (nI k), .int wd, .int (bb wt)])), (o1, .inl (cI, 8, .inl xs)), (o2, .inl (cI, 8, .inl ys)), (o3, .inl (cI, 8, .inl rf)), (o4, .inl (cI, 8, .inl bo)), (o5, .inl (cI, 4, .inl pr)), (o6, .inl (cI, 4, .inl bu))] H := hP
                have hD : va_D A [(f0, .inr (0, [.ref f1, .int (nI (bm ||| ca)), .int (nI mi)])), (f1, .inl (cI, 8, .inl t)), (o0, .inr (7, [.ref o1, .ref o2, .ref o3, .ref o4, .ref o5, .ref o6, .int (nI n), .int (nI k), .int wd, .int (bb wt)])), (o1, .inl (cI, 8, .inl xs)), (o2, .inl (cI, 8, .inl ys)), (o3, .inl (cI, 8, .inl rf)), (o4, .inl (cI, 8, .inl bo)), (o5, .inl (cI, 4, .inl pr)), (o6, .inl (cI, 4, .inl bu))] := hD
                refine lv_iconst (v := (0 : Int32)) hx hb dX0_spread_71 (by decide) ?_
                refine lv_istore (lv' := [(7, .int (0 : Int32)), (6, .int (nI mi)), (5, .int (nI ca)), (0, .ref f0), (1, .ref o0), (2, .int (nI al)), (3, .int (nI wn)), (4, .int (nI a0))]) hx hb dX0_spread_72 hl (by decide) rfl (fun ls hl => ?_)
                refine lv_iconst (v := (0 : Int32)) hx hb dX0_spread_74 (by decide) ?_
                refine lv_istore (lv' := [(8, .int (0 : Int32)), (7, .int (0 : Int32)), (6, .int (nI mi)), (5, .int (nI ca)), (0, .ref f0), (1, .ref o0), (2, .int (nI al)), (3, .int (nI wn)), (4, .int (nI a0))]) hx hb dX0_spread_75 hl (by decide) rfl (fun ls hl => ?_)
                have L_77 : ∀ (fuel : Nat) (t2 : Nat → Int32) (re : Nat) (h : Nat), (h ≤ 8) → (re = mkM (fun g => anyN (rchB tr xs ys n (nI wn) a0 mi g) h) n) → (∀ j, j < 8 → t2 j = (if prv tr xs ys n (nI wn) a0 mi j = true ∨ (rng tr xs ys n (nI wn) a0 mi j = true ∧ j < h) then fS tr xs ys n (nI wn) a0 mi j else (-9))) → (8 - h) < fuel → ∀ (H : Heap) (locs : List Loc), va_P D vwCl [(f0, .inr (0, [.ref f1, .int (nI (bm ||| ca)), .int (nI mi)])), (f1, .inl (cI, 8, .inl t2)), (o0, .inr (7, [.ref o1, .ref o2, .ref o3, .ref o4, .ref o5, .ref o6, .int (nI n), .int (nI k), .int wd, .int (bb wt)])), (o1, .inl (cI, 8, .inl xs)), (o2, .inl (cI, 8, .inl ys)), (o3, .inl (cI, 8, .inl rf)), (o4, .inl (cI, 8, .inl bo)), (o5, .inl (cI, 4, .inl pr)), (o6, .inl (cI, 4, .inl bu))] H → va_D A [(f0, .inr (0, [.ref f1, .int (nI (bm ||| ca)), .int (nI mi)])), (f1, .inl (cI, 8, .inl t2)), (o0, .inr (7, [.ref o1, .ref o2, .ref o3, .ref o4, .ref o5, .ref o6, .int (nI n), .int (nI k), .int wd, .int (bb wt)])), (o1, .inl (cI, 8, .inl xs)), (o2, .inl (cI, 8, .inl ys)), (o3, .inl (cI, 8, .inl rf)), (o4, .inl (cI, 8, .inl bo)), (o5, .inl (cI, 4, .inl pr)), (o6, .inl (cI, 4, .inl bu))] → va_S A s.heap H locs → ∀ ls : Array Slot, lv_has ls 9 [(8, .int (nI h)), (7, .int (nI re)), (6, .int (nI mi)), (5, .int (nI ca)), (0, .ref f0), (1, .ref o0), (2, .int (nI al)), (3, .int (nI wn)), (4, .int (nI a0))] → W p l e (xRm 3 68) s m ([.ref f0, .ref o0, .int (nI al), .int (nI wn), .int (nI a0)] : List Value).toArray below meth c H locs 0 0 Q (F0 m 77 ls []) := by
                  intro fuel
                  induction fuel with
                  | zero =>
                    intro t2 re h hh8 hre ht2 hm
                    exact absurd hm (Nat.not_lt_zero _)
                  | succ fuel ih_77 =>
                    intro t2 re h hh8 hre ht2 hm_77 H locs hP hD hS ls hl
                    refine lv_iload hx hb dX0_spread_77 (lv_at hl 0 rfl) ?_
                    refine lv_aload_n hx hb dX0_spread_79 rfl (lv_at hl 4 rfl) ?_
                    refine va_get (D := D) (ci := 0) (v := .ref f1) (C := RX0) (T := TX0) (N := 3) hx hb hts hin_X0 hown hK hP 0 rfl rfl 0 (by decide) w_0 (fun _ h9 => h9) rfl dX0_spread_80 ?_
                    refine va_alen (v := (8 : Int32)) hx hb hK hP 1 0 rfl rfl rfl dX0_spread_83 ?_
                    refine lv_icmp_ge (tgt := 132) hx hb dX0_spread_84 (by decide) (fun c_84 => ?_) (fun c_84 => ?_)
                    ·
                      have n_84 : 8 ≤ h := (nI_leI (show 8 < 2147483648 by omega) (show h < 2147483648 by omega)).1 c_84
                      have hre8 := hre
                      rw [show h = 8 by omega] at hre8
                      have hnx := rch_next hn ha (by omega) hre8 hbm hca
                      rw [← hal] at hnx
                      refine lv_iload hx hb dX0_spread_132 (lv_at hl 1 rfl) ?_
                      refine lv_iload_n hx hb dX0_spread_134 rfl (lv_at hl 6 rfl) ?_
                      refine lv_iand hx hb dX0_spread_135 ?_
                      refine lv_topr (x' := nI (re &&& al)) (fa_and _ _) ?_
                      refine lv_aload_n hx hb dX0_spread_136 rfl (lv_at hl 4 rfl) ?_
                      refine va_get (D := D) (ci := 0) (v := .int (nI (bm ||| ca))) (C := RX0) (T := TX0) (N := 3) hx hb hts hin_X0 hown hK hP 0 rfl rfl 1 (by decide) w_1 (fun _ h9 => h9) rfl dX0_spread_137 ?_
                      refine lv_iconst (v := (-1 : Int32)) hx hb dX0_spread_140 (by decide) ?_
                      refine lv_ixor hx hb dX0_spread_141 ?_
                      refine lv_topr (x' := nI (bm ||| ca) ^^^ (-1)) (rfl) ?_
                      refine lv_iand hx hb dX0_spread_142 ?_
                      refine lv_topr (x' := nI ((re &&& al) &&& ((bm ||| ca) ^^^ 255))) (notmask (and_256 (by rw [hre]; exact mkM_256 hn)) (by rw [hnx.2]; exact mkM_256 hn)) ?_
                      refine lv_istore (lv' := [(5, .int (nI ((re &&& al) &&& ((bm ||| ca) ^^^ 255)))), (8, .int (nI h)), (7, .int (nI re)), (6, .int (nI mi)), (0, .ref f0), (1, .ref o0), (2, .int (nI al)), (3, .int (nI wn)), (4, .int (nI a0))]) hx hb dX0_spread_143 hl (by decide) rfl (fun ls hl => ?_)
                      refine lv_iinc (v := nI (mi + 1)) (lv' := [(6, .int (nI (mi + 1))), (5, .int (nI ((re &&& al) &&& ((bm ||| ca) ^^^ 255)))), (8, .int (nI h)), (7, .int (nI re)), (0, .ref f0), (1, .ref o0), (2, .int (nI al)), (3, .int (nI wn)), (4, .int (nI a0))]) hx hb dX0_spread_145 hl (k := 3) rfl (by first | rfl | exact nI_add _ 1 | (simp only [] ; exact nI_add _ 1)) (by decide) rfl (fun ls hl => ?_)
                      refine lv_goto (tgt := 42) hx hb dX0_spread_148 (by decide) ?_
                      exact ih_42 t2 (bm ||| ca) (nI mi) ((re &&& al) &&& ((bm ||| ca) ^^^ 255)) (mi + 1) (by omega) (hnx.1) (hnx.2) (spr_end ht2 (by omega) (by omega)) (lt_s hne (mkM_nz (hca ▸ n_51))) (fun _ => rfl) (by omega) _ _ hP hD hS _ (lv_sub hl [0, 1, 4, 5, 6, 7, 8] rfl)
                    ·
                      have n_84 : h < 8 := Nat.lt_of_not_le (fun q => c_84 ((nI_leI (show 8 < 2147483648 by omega) (show h < 2147483648 by omega)).2 q))
                      refine lv_iload hx hb dX0_spread_87 (lv_at hl 3 rfl) ?_
                      refine lv_iload hx hb dX0_spread_89 (lv_at hl 0 rfl) ?_
                      refine lv_ishr hx hb dX0_spread_91 ?_
                      refine lv_iconst (v := (1 : Int32)) hx hb dX0_spread_92 (by decide) ?_
                      refine lv_iand hx hb dX0_spread_93 ?_
                      refine lv_topr (x' := bb (ca.testBit h)) (bit_a (by rw [hca]; exact mkM_256 hn) (by omega)) ?_
                      refine lv_iconst (v := (1 : Int32)) hx hb dX0_spread_94 (by decide) ?_
                      refine lv_icmp_ne (tgt := 126) hx hb dX0_spread_95 (by decide) (fun c_95 => ?_) (fun c_95 => ?_)
                      ·
                        have b_95 : (ca.testBit h) = false := bb_neq1 c_95
                        refine lv_iinc (v := nI (h + 1)) (lv' := [(8, .int (nI (h + 1))), (7, .int (nI re)), (6, .int (nI mi)), (5, .int (nI ca)), (0, .ref f0), (1, .ref o0), (2, .int (nI al)), (3, .int (nI wn)), (4, .int (nI a0))]) hx hb dX0_spread_126 hl (k := 0) rfl (by first | rfl | exact nI_add _ 1 | (simp only [] ; exact nI_add _ 1)) (by decide) rfl (fun ls hl => ?_)
                        refine lv_goto (tgt := 77) hx hb dX0_spread_129 (by decide) ?_
                        exact ih_77 t2 re (h + 1) (by omega) (rch_no (fun q => rng_bit hca q b_95) ha (by omega) hre) (spr_no ht2 (fun q => rng_bit hca q b_95) ha (by omega)) (by omega) _ _ hP hD hS _ (lv_sub hl [0, 1, 2, 3, 4, 5, 6, 7, 8] rfl)
                      ·
                        have b_95 : (ca.testBit h) = true := bb_eq1 c_95
                        have hhn : h < n := bit_lt hca b_95
                        have hrg := bit_rng hca b_95
                        refine lv_aload_n hx hb dX0_spread_98 rfl (lv_at hl 4 rfl) ?_
                        refine va_get (D := D) (ci := 0) (v := .ref f1) (C := RX0) (T := TX0) (N := 3) hx hb hts hin_X0 hown hK hP 0 rfl rfl 0 (by decide) w_0 (fun _ h9 => h9) rfl dX0_spread_99 ?_
                        refine lv_iload hx hb dX0_spread_102 (lv_at hl 0 rfl) ?_
                        refine lv_iload hx hb dX0_spread_104 (lv_at hl 2 rfl) ?_
                        refine x_iast hx hb hK hP hD hS 1 0 rfl rfl (j := h) (by omega) (by decide) dX0_spread_106 (fun H locs hP hD hS => ?_)
                        have hP : va_P D vwCl [(f0, .inr (0, [.ref f1, .int (nI (bm ||| ca)), .int (nI mi)])), (f1, .inl (cI, 8, .inl (upd t2 h (nI mi)))), (o0, .inr (7, [.ref o1, .ref o2, .ref o3, .ref o4, .ref o5, .ref o6, .int (nI n), .int (nI k), .int wd, .int (bb wt)])), (o1, .inl (cI, 8, .inl xs)), (o2, .inl (cI, 8, .inl ys)), (o3, .inl (cI, 8, .inl rf)), (o4, .inl (cI, 8, .inl bo)), (o5, .inl (cI, 4, .inl pr)), (o6, .inl (cI, 4, .inl bu))] H := hP
                        have hD : va_D A [(f0, .inr (0, [.ref f1, .int (nI (bm ||| ca)), .int (nI mi)])), (f1, .inl (cI, 8, .inl (upd t2 h (nI mi)))), (o0, .inr (7, [.ref o1, .ref o2, .ref o3, .ref o4, .ref o5, .ref o6, .int (nI n), .int (nI k), .int wd, .int (bb wt)])), (o1, .inl (cI, 8, .inl xs)), (o2, .inl (cI, 8, .inl ys)), (o3, .inl (cI, 8, .inl rf)), (o4, .inl (cI, 8, .inl bo)), (o5, .inl (cI, 4, .inl pr)), (o6, .inl (cI, 4, .inl bu))] := hD
                        refine lv_iload hx hb dX0_spread_107 (lv_at hl 1 rfl) ?_
                        refine lv_aload_n hx hb dX0_spread_109 rfl (lv_at hl 5 rfl) ?_
                        refine lv_iload hx hb dX0_spread_110 (lv_at hl 0 rfl) ?_
                        refine xcV_i (As := [.int (nI h)]) (rest := [.int (nI re)]) (wc := [(o0, .inr (7, [.ref o1, .ref o2, .ref o3, .ref o4, .ref o5, .ref o6, .int (nI n), .int (nI k), .int wd, .int (bb wt)])), (o1, .inl (cI, 8, .inl xs)), (o2, .inl (cI, 8, .inl ys)), (o3, .inl (cI, 8, .inl rf)), (o4, .inl (cI, 8, .inl bo)), (o5, .inl (cI, 4, .inl pr)), (o6, .inl (cI, 4, .inl bu))]) (wr := [(f0, .inr (0, [.ref f1, .int (nI (bm ||| ca)), .int (nI mi)])), (f1, .inl (cI, 8, .inl (upd t2 h (nI mi))))]) (w3 := fun (u : Unit) => [(f0, .inr (0, [.ref f1, .int (nI (bm ||| ca)), .int (nI mi)])), (f1, .inl (cI, 8, .inl (upd t2 h (nI mi)))), (o0, .inr (7, [.ref o1, .ref o2, .ref o3, .ref o4, .ref o5, .ref o6, .int (nI n), .int (nI k), .int wd, .int (bb wt)])), (o1, .inl (cI, 8, .inl xs)), (o2, .inl (cI, 8, .inl ys)), (o3, .inl (cI, 8, .inl rf)), (o4, .inl (cI, 8, .inl bo)), (o5, .inl (cI, 4, .inl pr)), (o6, .inl (cI, 4, .inl bu))]) ⟨hx, hb, hml, hown, hts⟩ (c_X8_touched l D cI cZ cO H.size o0 o1 o2 o3 o4 o5 o6 xs ys rf bo pr bu n k wd wt h (by first | assumption | omega | rfl) (by first | assumption | omega | rfl)) (cwV 1 hts gX0_spread_X8_touched rfl rfl rfl (by decide +kernel) ⟨Nat.le_of_ble_eq_true rfl, Nat.le_of_ble_eq_true rfl⟩) (xGdc gR gD gK gV) xGd0 (fun _ _ _ _ => trivial) hG hP hD hK hS hA [2, 3, 4, 5, 6, 7, 8] [0, 1] [0, 1, 2, 3, 4, 5, 6, 7, 8] rfl rfl rfl rfl rfl 2 rfl rfl rfl (fun _ => rfl) rfl rfl hl.1 (Nat.le_of_ble_eq_true rfl) dX0_spread_112 ⟨Nat.zero_le _, Nat.zero_le _⟩ (fun r u H locs hw hP hD hS => ?_)
                        obtain ⟨rfl, hw⟩ := hw
                        have hw_112 : True := hw
                        have hP : va_P D vwCl [(f0, .inr (0, [.ref f1, .int (nI (bm ||| ca)), .int (nI mi)])), (f1, .inl (cI, 8, .inl (upd t2 h (nI mi)))), (o0, .inr (7, [.ref o1, .ref o2, .ref o3, .ref o4, .ref o5, .ref o6, .int (nI n), .int (nI k), .int wd, .int (bb wt)])), (o1, .inl (cI, 8, .inl xs)), (o2, .inl (cI, 8, .inl ys)), (o3, .inl (cI, 8, .inl rf)), (o4, .inl (cI, 8, .inl bo)), (o5, .inl (cI, 4, .inl pr)), (o6, .inl (cI, 4, .inl bu))] H := hP
                        have hD : va_D A [(f0, .inr (0, [.ref f1, .int (nI (bm ||| ca)), .int (nI mi)])), (f1, .inl (cI, 8, .inl (upd t2 h (nI mi)))), (o0, .inr (7, [.ref o1, .ref o2, .ref o3, .ref o4, .ref o5, .ref o6, .int (nI n), .int (nI k), .int wd, .int (bb wt)])), (o1, .inl (cI, 8, .inl xs)), (o2, .inl (cI, 8, .inl ys)), (o3, .inl (cI, 8, .inl rf)), (o4, .inl (cI, 8, .inl bo)), (o5, .inl (cI, 4, .inl pr)), (o6, .inl (cI, 4, .inl bu))] := hD
                        refine lv_aload_n hx hb dX0_spread_115 rfl (lv_at hl 5 rfl) ?_
                        refine lv_iload hx hb dX0_spread_116 (lv_at hl 0 rfl) ?_
                        refine lv_iload_n hx hb dX0_spread_118 rfl (lv_at hl 7 rfl) ?_
                        refine xcV_i (As := [.int (nI h), .int (nI wn)]) (rest := [.int (nI (mkM (fun g => arb xs ys h 1 g) n)), .int (nI re)]) (wc := [(o0, .inr (7, [.ref o1, .ref o2, .ref o3, .ref o4, .ref o5, .ref o6, .int (nI n), .int (nI k), .int wd, .int (bb wt)])), (o1, .inl (cI, 8, .inl xs)), (o2, .inl (cI, 8, .inl ys)), (o3, .inl (cI, 8, .inl rf)), (o4, .inl (cI, 8, .inl bo)), (o5, .inl (cI, 4, .inl pr)), (o6, .inl (cI, 4, .inl bu))]) (wr := [(f0, .inr (0, [.ref f1, .int (nI (bm ||| ca)), .int (nI mi)])), (f1, .inl (cI, 8, .inl (upd t2 h (nI mi))))]) (w3 := fun (u : Nat) => [(f0, .inr (0, [.ref f1, .int (nI (bm ||| ca)), .int (nI mi)])), (f1, .inl (cI, 8, .inl (upd t2 h (nI mi)))), (o0, .inr (7, [.ref o1, .ref o2, .ref o3, .ref o4, .ref o5, .ref o6, .int (nI n), .int (nI k), .int wd, .int (bb wt)])), (o1, .inl (cI, 8, .inl xs)), (o2, .inl (cI, 8, .inl ys)), (o3, .inl (cI, 8, .inl rf)), (o4, .inl (cI, 8, .inl bo)), (o5, .inl (cI, 4, .inl pr)), (o6, .inl (cI, 4, .inl bu))]) ⟨hx, hb, hml, hown, hts⟩ (c_X8_sparked l D cI cZ cO H.size gR gD gK gV o0 o1 o2 o3 o4 o5 o6 xs ys rf bo pr bu n k wd wt h wn (by first | assumption | omega | rfl) (by first | assumption | omega | rfl) (by first | assumption | omega | rfl)) (cwV 2 hts gX0_spread_X8_sparked rfl rfl rfl (by decide +kernel) ⟨Nat.le_of_ble_eq_true rfl, Nat.le_of_ble_eq_true rfl⟩) (xGdc gR gD gK gV) (xGdc gR gD gK gV) (fun _ _ _ h => h) hG hP hD hK hS hA [2, 3, 4, 5, 6, 7, 8] [0, 1] [0, 1, 2, 3, 4, 5, 6, 7, 8] rfl rfl rfl rfl rfl 2 rfl rfl rfl (fun _ => rfl) rfl rfl hl.1 (Nat.le_of_ble_eq_true rfl) dX0_spread_119 ⟨Nat.zero_le _, Nat.zero_le _⟩ (fun r u H locs hw hP hD hS => ?_)
                        obtain ⟨z_1, rfl⟩ : ∃ z, z = u := ⟨_, rfl⟩
                        obtain ⟨rfl, hw⟩ := hw
                        have hw_119 : spkM n xs ys h wn z_1 := hw
                        have hP : va_P D vwCl [(f0, .inr (0, [.ref f1, .int (nI (bm ||| ca)), .int (nI mi)])), (f1, .inl (cI, 8, .inl (upd t2 h (nI mi)))), (o0, .inr (7, [.ref o1, .ref o2, .ref o3, .ref o4, .ref o5, .ref o6, .int (nI n), .int (nI k), .int wd, .int (bb wt)])), (o1, .inl (cI, 8, .inl xs)), (o2, .inl (cI, 8, .inl ys)), (o3, .inl (cI, 8, .inl rf)), (o4, .inl (cI, 8, .inl bo)), (o5, .inl (cI, 4, .inl pr)), (o6, .inl (cI, 4, .inl bu))] H := hP
                        have hD : va_D A [(f0, .inr (0, [.ref f1, .int (nI (bm ||| ca)), .int (nI mi)])), (f1, .inl (cI, 8, .inl (upd t2 h (nI mi)))), (o0, .inr (7, [.ref o1, .ref o2, .ref o3, .ref o4, .ref o5, .ref o6, .int (nI n), .int (nI k), .int wd, .int (bb wt)])), (o1, .inl (cI, 8, .inl xs)), (o2, .inl (cI, 8, .inl ys)), (o3, .inl (cI, 8, .inl rf)), (o4, .inl (cI, 8, .inl bo)), (o5, .inl (cI, 4, .inl pr)), (o6, .inl (cI, 4, .inl bu))] := hD
                        refine lv_ior hx hb dX0_spread_122 ?_
                        refine lv_topr (x' := nI ((mkM (fun g => arb xs ys h 1 g) n) ||| z_1)) (fa_or _ _) ?_
                        refine lv_ior hx hb dX0_spread_123 ?_
                        refine lv_topr (x' := nI (re ||| ((mkM (fun g => arb xs ys h 1 g) n) ||| z_1))) (fa_or _ _) ?_
                        refine lv_istore (lv' := [(7, .int (nI (re ||| ((mkM (fun g => arb xs ys h 1 g) n) ||| z_1)))), (8, .int (nI h)), (6, .int (nI mi)), (5, .int (nI ca)), (0, .ref f0), (1, .ref o0), (2, .int (nI al)), (3, .int (nI wn)), (4, .int (nI a0))]) hx hb dX0_spread_124 hl (by decide) rfl (fun ls hl => ?_)
                        refine lv_iinc (v := nI (h + 1)) (lv' := [(8, .int (nI (h + 1))), (7, .int (nI (re ||| ((mkM (fun g => arb xs ys h 1 g) n) ||| z_1)))), (6, .int (nI mi)), (5, .int (nI ca)), (0, .ref f0), (1, .ref o0), (2, .int (nI al)), (3, .int (nI wn)), (4, .int (nI a0))]) hx hb dX0_spread_126 hl (k := 1) rfl (by first | rfl | exact nI_add _ 1 | (simp only [] ; exact nI_add _ 1)) (by decide) rfl (fun ls hl => ?_)
                        refine lv_goto (tgt := 77) hx hb dX0_spread_129 (by decide) ?_
                        exact ih_77 (upd t2 h (nI mi)) (re ||| ((mkM (fun g => arb xs ys h 1 g) n) ||| z_1)) (h + 1) (by omega) (rch_up hn hc rfl hwn hhn hw_119 hrg hre) (spr_up ht2 hrg) (by omega) _ _ hP hD hS _ (lv_sub hl [0, 1, 2, 3, 4, 5, 6, 7, 8] rfl)
                exact L_77 (Nat.succ (8 - 0)) t 0 0 (by decide) ((mkM_none n).symm) (spr_beg ht) (Nat.lt_succ_self _) _ _ hP hD hS _ (lv_sub hl [0, 1, 2, 3, 4, 5, 6, 7, 8] rfl)
        exact L_42 (Nat.succ (8 - 0)) t 0 lc (2 ^ a0) 0 (by decide) ((rng_0 ha).symm) (by rw [mkM_congr (fun g _ => prv_0)]; exact (mkM_none n).symm) (fun h hh => by rw [prv_0, if_neg (by decide)]; exact ht h (by omega)) (fun _ q => absurd q (Nat.not_lt_zero _)) (fun q => absurd q (by decide)) (Nat.lt_succ_self _) _ _ hP hD hS _ (lv_sub hl [0, 1, 2, 3, 4, 5, 6] rfl)
      ·
        have n_10 : i < 8 := Nat.lt_of_not_le (fun q => c_10 ((nI_leI (show 8 < 2147483648 by omega) (show i < 2147483648 by omega)).2 q))
        refine lv_aload_n hx hb dX0_spread_13 rfl (lv_at hl 1 rfl) ?_
        refine va_get (D := D) (ci := 0) (v := .ref f1) (C := RX0) (T := TX0) (N := 3) hx hb hts hin_X0 hown hK hP 0 rfl rfl 0 (by decide) w_0 (fun _ h9 => h9) rfl dX0_spread_14 ?_
        refine lv_iload hx hb dX0_spread_17 (lv_at hl 0 rfl) ?_
        refine lv_bipush (v := (-9 : Int32)) hx hb dX0_spread_19 (by decide) ?_
        refine x_iast hx hb hK hP hD hS 1 0 rfl rfl (j := i) (by omega) (by decide) dX0_spread_21 (fun H locs hP hD hS => ?_)
        have hP : va_P D vwCl [(f0, .inr (0, [.ref f1, .int bt, .int lc])), (f1, .inl (cI, 8, .inl (upd t i (-9 : Int32)))), (o0, .inr (7, [.ref o1, .ref o2, .ref o3, .ref o4, .ref o5, .ref o6, .int (nI n), .int (nI k), .int wd, .int (bb wt)])), (o1, .inl (cI, 8, .inl xs)), (o2, .inl (cI, 8, .inl ys)), (o3, .inl (cI, 8, .inl rf)), (o4, .inl (cI, 8, .inl bo)), (o5, .inl (cI, 4, .inl pr)), (o6, .inl (cI, 4, .inl bu))] H := hP
        have hD : va_D A [(f0, .inr (0, [.ref f1, .int bt, .int lc])), (f1, .inl (cI, 8, .inl (upd t i (-9 : Int32)))), (o0, .inr (7, [.ref o1, .ref o2, .ref o3, .ref o4, .ref o5, .ref o6, .int (nI n), .int (nI k), .int wd, .int (bb wt)])), (o1, .inl (cI, 8, .inl xs)), (o2, .inl (cI, 8, .inl ys)), (o3, .inl (cI, 8, .inl rf)), (o4, .inl (cI, 8, .inl bo)), (o5, .inl (cI, 4, .inl pr)), (o6, .inl (cI, 4, .inl bu))] := hD
        refine lv_iinc (v := nI (i + 1)) (lv' := [(5, .int (nI (i + 1))), (0, .ref f0), (1, .ref o0), (2, .int (nI al)), (3, .int (nI wn)), (4, .int (nI a0))]) hx hb dX0_spread_22 hl (k := 0) rfl (by first | rfl | exact nI_add _ 1 | (simp only [] ; exact nI_add _ 1)) (by decide) rfl (fun ls hl => ?_)
        refine lv_goto (tgt := 3) hx hb dX0_spread_25 (by decide) ?_
        exact ih_3 (upd t i (-9 : Int32)) (i + 1) (by omega) (upd_ext2 (f := fun _ => (-9)) ht rfl) (by omega) _ _ hP hD hS _ (lv_sub hl [0, 1, 2, 3, 4, 5] rfl)
  exact L_3 (Nat.succ (8 - 0)) si 0 (by decide) (fun _ q => absurd q (Nat.not_lt_zero _)) (Nat.lt_succ_self _) _ _ hP hD hS _ (lv_sub hl [0, 1, 2, 3, 4, 5] rfl)

set_option maxHeartbeats 4000000 in
set_option maxRecDepth 100000 in
theorem c_X0_burnFrom (l : Launch) (D : va_G) (cI cZ cO : ClassId) (sz : Nat) (gR : Nat) (gD : Nat) (gK : Nat → Nat) (gV : Nat → Nat) (f0 : Nat) (f1 : Nat) (bt : Int32) (lc : Int32) (si : Nat → Int32) (o0 : Nat) (o1 : Nat) (o2 : Nat) (o3 : Nat) (o4 : Nat) (o5 : Nat) (o6 : Nat) (xs : Nat → Int32) (ys : Nat → Int32) (rf : Nat → Int32) (bo : Nat → Int32) (pr : Nat → Int32) (bu : Nat → Int32) (n : Nat) (k : Nat) (wn : Nat) (wt : Bool) (a0 : Nat) (hn : n ≤ 8) (hk : k ≤ 4) (hc : cOK n xs ys) (ha : a0 < n) (hwn : wn ≤ 4) : xMi l yX0_burnFrom wsX0_burnFrom (4) (96) D (TY cI cZ cO) (xGc gR gD gK gV) [.ref f0, .ref o0, .int (nI a0)] [(f0, .inr (0, [.ref f1, .int bt, .int lc])), (f1, .inl (cI, 8, .inl si)), (o0, .inr (7, [.ref o1, .ref o2, .ref o3, .ref o4, .ref o5, .ref o6, .int (nI n), .int (nI k), .int (nI wn), .int (bb wt)])), (o1, .inl (cI, 8, .inl xs)), (o2, .inl (cI, 8, .inl ys)), (o3, .inl (cI, 8, .inl rf)), (o4, .inl (cI, 8, .inl bo)), (o5, .inl (cI, 4, .inl pr)), (o6, .inl (cI, 4, .inl bu))] sz (fun (rv_ : Int32) (u : Bool × (Nat → Int32) × Int32 × Int32) => rv_ = (bb (u.1)) ∧ ((u.1) = decide (0 < prOf bu k (rf a0)) ∧ ((u.1) = true → (∀ h, h < 8 → (u.2.1) h = fS rf xs ys n (nI wn) a0 98 h) ∧ ∃ bn ln, (u.2.2.1) = nI bn ∧ (u.2.2.2) = nI ln ∧ bn = mkM (litB (fS rf xs ys n (nI wn) a0 98)) n ∧ lastP (fS rf xs ys n (nI wn) a0 98) n ln))) (fun (u : Bool × (Nat → Int32) × Int32 × Int32) => [(f0, .inr (0, [.ref f1, .int (u.2.2.1), .int (u.2.2.2)])), (f1, .inl (cI, 8, .inl (u.2.1))), (o0, .inr (7, [.ref o1, .ref o2, .ref o3, .ref o4, .ref o5, .ref o6, .int (nI n), .int (nI k), .int (nI wn), .int (bb wt)])), (o1, .inl (cI, 8, .inl xs)), (o2, .inl (cI, 8, .inl ys)), (o3, .inl (cI, 8, .inl rf)), (o4, .inl (cI, 8, .inl bo)), (o5, .inl (cI, 4, .inl pr)), (o6, .inl (cI, 4, .inl bu))]) := by
  refine xMi.of (cc := cX0_burnFrom) (maxL := 3) (by decide +kernel) rfl (Nat.le_of_ble_eq_true rfl) ?_
  intro p e s m below meth c A Q H hx hb hml hown hts hA hP hD hK hS hG hret ls hl
  have hown : s.vm.findClass RX0 = some m.cls := hown
  have hP : va_P D vwCl [(f0, .inr (0, [.ref f1, .int bt, .int lc])), (f1, .inl (cI, 8, .inl si)), (o0, .inr (7, [.ref o1, .ref o2, .ref o3, .ref o4, .ref o5, .ref o6, .int (nI n), .int (nI k), .int (nI wn), .int (bb wt)])), (o1, .inl (cI, 8, .inl xs)), (o2, .inl (cI, 8, .inl ys)), (o3, .inl (cI, 8, .inl rf)), (o4, .inl (cI, 8, .inl bo)), (o5, .inl (cI, 4, .inl pr)), (o6, .inl (cI, 4, .inl bu))] H := hP
  have hD : va_D A [(f0, .inr (0, [.ref f1, .int bt, .int lc])), (f1, .inl (cI, 8, .inl si)), (o0, .inr (7, [.ref o1, .ref o2, .ref o3, .ref o4, .ref o5, .ref o6, .int (nI n), .int (nI k), .int (nI wn), .int (bb wt)])), (o1, .inl (cI, 8, .inl xs)), (o2, .inl (cI, 8, .inl ys)), (o3, .inl (cI, 8, .inl rf)), (o4, .inl (cI, 8, .inl bo)), (o5, .inl (cI, 4, .inl pr)), (o6, .inl (cI, 4, .inl bu))] := hD
  have hl : lv_has ls 3 [(0, .ref f0), (1, .ref o0), (2, .int (nI a0))] := hl
  have wn_0 : (Cond.fieldLinkNest RX0 21 "UnlikeRoofs$Town" "roofs" "[I" "UnlikeRoofs").before ([.ref f0, .ref o0, .int (nI a0)] : List Value).toArray s = true := va_Nw.use rfl (hG.1 (.fieldLinkNest RX0 21 "UnlikeRoofs$Town" "roofs" "[I" "UnlikeRoofs") (List.mem_of_getElem? (i := 12) (by rfl)))
  have wn_1 : (Cond.fieldLinkNest RX0 28 "UnlikeRoofs$Town" "blowing" "I" "UnlikeRoofs").before ([.ref f0, .ref o0, .int (nI a0)] : List Value).toArray s = true := va_Nw.use rfl (hG.1 (.fieldLinkNest RX0 28 "UnlikeRoofs$Town" "blowing" "I" "UnlikeRoofs") (List.mem_of_getElem? (i := 27) (by rfl)))
  have hin_X8 : ∀ w ∈ wsX80, w ∈ wsX0_burnFrom := fun _ h => List.mem_cons_of_mem _ (List.mem_append_left _ (List.mem_append_right _ h))
  have _h0 : True := trivial
  refine lv_aload_n hx hb dX0_burnFrom_0 rfl (lv_at hl 1 rfl) ?_
  refine lv_iload_n hx hb dX0_burnFrom_1 rfl (lv_at hl 2 rfl) ?_
  refine xcV_i (As := [.int (nI a0)]) (rest := []) (wc := [(o0, .inr (7, [.ref o1, .ref o2, .ref o3, .ref o4, .ref o5, .ref o6, .int (nI n), .int (nI k), .int (nI wn), .int (bb wt)])), (o1, .inl (cI, 8, .inl xs)), (o2, .inl (cI, 8, .inl ys)), (o3, .inl (cI, 8, .inl rf)), (o4, .inl (cI, 8, .inl bo)), (o5, .inl (cI, 4, .inl pr)), (o6, .inl (cI, 4, .inl bu))]) (wr := [(f0, .inr (0, [.ref f1, .int bt, .int lc])), (f1, .inl (cI, 8, .inl si))]) (w3 := fun (u : Unit) => [(f0, .inr (0, [.ref f1, .int bt, .int lc])), (f1, .inl (cI, 8, .inl si)), (o0, .inr (7, [.ref o1, .ref o2, .ref o3, .ref o4, .ref o5, .ref o6, .int (nI n), .int (nI k), .int (nI wn), .int (bb wt)])), (o1, .inl (cI, 8, .inl xs)), (o2, .inl (cI, 8, .inl ys)), (o3, .inl (cI, 8, .inl rf)), (o4, .inl (cI, 8, .inl bo)), (o5, .inl (cI, 4, .inl pr)), (o6, .inl (cI, 4, .inl bu))]) ⟨hx, hb, hml, hown, hts⟩ (c_X8_canBurn l D cI cZ cO H.size o0 o1 o2 o3 o4 o5 o6 xs ys rf bo pr bu n k (nI wn) wt a0 (by first | assumption | omega | rfl) (by first | assumption | omega | rfl) (by first | assumption | omega | rfl)) (cwV 1 hts gX0_burnFrom_X8_canBurn rfl rfl rfl (by decide +kernel) ⟨Nat.le_of_ble_eq_true rfl, Nat.le_of_ble_eq_true rfl⟩) (xGdc gR gD gK gV) xGd0 (fun _ _ _ _ => trivial) hG hP hD hK hS hA [2, 3, 4, 5, 6, 7, 8] [0, 1] [0, 1, 2, 3, 4, 5, 6, 7, 8] rfl rfl rfl rfl rfl 2 rfl rfl rfl (fun _ => rfl) rfl rfl hl.1 (Nat.le_of_ble_eq_true rfl) dX0_burnFrom_2 ⟨Nat.zero_le _, Nat.zero_le _⟩ (fun r u H locs hw hP hD hS => ?_)
  obtain ⟨rfl, hw⟩ := hw
  have hw_2 : True := hw
  have hP : va_P D vwCl [(f0, .inr (0, [.ref f1, .int bt, .int lc])), (f1, .inl (cI, 8, .inl si)), (o0, .inr (7, [.ref o1, .ref o2, .ref o3, .ref o4, .ref o5, .ref o6, .int (nI n), .int (nI k), .int (nI wn), .int (bb wt)])), (o1, .inl (cI, 8, .inl xs)), (o2, .inl (cI, 8, .inl ys)), (o3, .inl (cI, 8, .inl rf)), (o4, .inl (cI, 8, .inl bo)), (o5, .inl (cI, 4, .inl pr)), (o6, .inl (cI, 4, .inl bu))] H := hP
  have hD : va_D A [(f0, .inr (0, [.ref f1, .int bt, .int lc])), (f1, .inl (cI, 8, .inl si)), (o0, .inr (7, [.ref o1, .ref o2, .ref o3, .ref o4, .ref o5, .ref o6, .int (nI n), .int (nI k), .int (nI wn), .int (bb wt)])), (o1, .inl (cI, 8, .inl xs)), (o2, .inl (cI, 8, .inl ys)), (o3, .inl (cI, 8, .inl rf)), (o4, .inl (cI, 8, .inl bo)), (o5, .inl (cI, 4, .inl pr)), (o6, .inl (cI, 4, .inl bu))] := hD
  refine lv_if_ne (tgt := 10) hx hb dX0_burnFrom_5 (by decide) (fun c_5 => ?_) (fun c_5 => ?_)
  ·
    have b_5 : (decide (0 < prOf bu k (rf a0))) = true := bb_neq0 c_5
    have b_5 := of_decide_eq_true b_5
    refine lv_aload_n hx hb dX0_burnFrom_10 rfl (lv_at hl 0 rfl) ?_
    refine lv_aload_n hx hb dX0_burnFrom_11 rfl (lv_at hl 1 rfl) ?_
    refine lv_aload_n hx hb dX0_burnFrom_12 rfl (lv_at hl 1 rfl) ?_
    refine lv_aload_n hx hb dX0_burnFrom_13 rfl (lv_at hl 1 rfl) ?_
    refine va_getN (D := D) (ci := 7) (v := .ref o3) (C := RX8) (T := TX8) (N := 10) hx hb hts hin_X8 hown hK hP 2 rfl rfl 2 (by decide) wn_0 (fun _ h9 => h9) rfl dX0_burnFrom_14 ?_
    refine lv_iload_n hx hb dX0_burnFrom_17 rfl (lv_at hl 2 rfl) ?_
    refine x_iald hx hb hK hP 5 0 rfl rfl (j := a0) (by omega) (by decide) dX0_burnFrom_18 ?_
    refine xcV_i (As := [.int (rf a0)]) (rest := [.ref o0, .ref f0]) (wc := [(o0, .inr (7, [.ref o1, .ref o2, .ref o3, .ref o4, .ref o5, .ref o6, .int (nI n), .int (nI k), .int (nI wn), .int (bb wt)])), (o1, .inl (cI, 8, .inl xs)), (o2, .inl (cI, 8, .inl ys)), (o3, .inl (cI, 8, .inl rf)), (o4, .inl (cI, 8, .inl bo)), (o5, .inl (cI, 4, .inl pr)), (o6, .inl (cI, 4, .inl bu))]) (wr := [(f0, .inr (0, [.ref f1, .int bt, .int lc])), (f1, .inl (cI, 8, .inl si))]) (w3 := fun (u : Unit) => [(f0, .inr (0, [.ref f1, .int bt, .int lc])), (f1, .inl (cI, 8, .inl si)), (o0, .inr (7, [.ref o1, .ref o2, .ref o3, .ref o4, .ref o5, .ref o6, .int (nI n), .int (nI k), .int (nI wn), .int (bb wt)])), (o1, .inl (cI, 8, .inl xs)), (o2, .inl (cI, 8, .inl ys)), (o3, .inl (cI, 8, .inl rf)), (o4, .inl (cI, 8, .inl bo)), (o5, .inl (cI, 4, .inl pr)), (o6, .inl (cI, 4, .inl bu))]) ⟨hx, hb, hml, hown, hts⟩ (c_X8_roofedWith l D cI cZ cO H.size o0 o1 o2 o3 o4 o5 o6 xs ys rf bo pr bu n k (nI wn) wt (rf a0) (by first | assumption | omega | rfl)) (cwV 1 hts gX0_burnFrom_X8_roofedWith rfl rfl rfl (by decide +kernel) ⟨Nat.le_of_ble_eq_true rfl, Nat.le_of_ble_eq_true rfl⟩) (xGdc gR gD gK gV) xGd0 (fun _ _ _ _ => trivial) hG hP hD hK hS hA [2, 3, 4, 5, 6, 7, 8] [0, 1] [0, 1, 2, 3, 4, 5, 6, 7, 8] rfl rfl rfl rfl rfl 2 rfl rfl rfl (fun _ => rfl) rfl rfl hl.1 (Nat.le_of_ble_eq_true rfl) dX0_burnFrom_19 ⟨Nat.zero_le _, Nat.zero_le _⟩ (fun r u H locs hw hP hD hS => ?_)
    obtain ⟨rfl, hw⟩ := hw
    have hw_19 : True := hw
    have hP : va_P D vwCl [(f0, .inr (0, [.ref f1, .int bt, .int lc])), (f1, .inl (cI, 8, .inl si)), (o0, .inr (7, [.ref o1, .ref o2, .ref o3, .ref o4, .ref o5, .ref o6, .int (nI n), .int (nI k), .int (nI wn), .int (bb wt)])), (o1, .inl (cI, 8, .inl xs)), (o2, .inl (cI, 8, .inl ys)), (o3, .inl (cI, 8, .inl rf)), (o4, .inl (cI, 8, .inl bo)), (o5, .inl (cI, 4, .inl pr)), (o6, .inl (cI, 4, .inl bu))] H := hP
    have hD : va_D A [(f0, .inr (0, [.ref f1, .int bt, .int lc])), (f1, .inl (cI, 8, .inl si)), (o0, .inr (7, [.ref o1, .ref o2, .ref o3, .ref o4, .ref o5, .ref o6, .int (nI n), .int (nI k), .int (nI wn), .int (bb wt)])), (o1, .inl (cI, 8, .inl xs)), (o2, .inl (cI, 8, .inl ys)), (o3, .inl (cI, 8, .inl rf)), (o4, .inl (cI, 8, .inl bo)), (o5, .inl (cI, 4, .inl pr)), (o6, .inl (cI, 4, .inl bu))] := hD
    refine lv_aload_n hx hb dX0_burnFrom_22 rfl (lv_at hl 1 rfl) ?_
    refine va_getN (D := D) (ci := 7) (v := .int (nI wn)) (C := RX8) (T := TX8) (N := 10) hx hb hts hin_X8 hown hK hP 2 rfl rfl 8 (by decide) wn_1 (fun _ h9 => h9) rfl dX0_burnFrom_23 ?_
    refine lv_iload_n hx hb dX0_burnFrom_26 rfl (lv_at hl 2 rfl) ?_
    refine xcV_v (As := [.ref o0, .int (nI (mkM (fun g => decide (rf g = (rf a0))) n)), .int (nI wn), .int (nI a0)]) (rest := []) (wc := [(f0, .inr (0, [.ref f1, .int bt, .int lc])), (f1, .inl (cI, 8, .inl si)), (o0, .inr (7, [.ref o1, .ref o2, .ref o3, .ref o4, .ref o5, .ref o6, .int (nI n), .int (nI k), .int (nI wn), .int (bb wt)])), (o1, .inl (cI, 8, .inl xs)), (o2, .inl (cI, 8, .inl ys)), (o3, .inl (cI, 8, .inl rf)), (o4, .inl (cI, 8, .inl bo)), (o5, .inl (cI, 4, .inl pr)), (o6, .inl (cI, 4, .inl bu))]) (wr := []) (w3 := fun (u : (Nat → Int32) × Nat × Nat) => [(f0, .inr (0, [.ref f1, .int (nI (u.2.1)), .int (nI (u.2.2))])), (f1, .inl (cI, 8, .inl (u.1))), (o0, .inr (7, [.ref o1, .ref o2, .ref o3, .ref o4, .ref o5, .ref o6, .int (nI n), .int (nI k), .int (nI wn), .int (bb wt)])), (o1, .inl (cI, 8, .inl xs)), (o2, .inl (cI, 8, .inl ys)), (o3, .inl (cI, 8, .inl rf)), (o4, .inl (cI, 8, .inl bo)), (o5, .inl (cI, 4, .inl pr)), (o6, .inl (cI, 4, .inl bu))]) ⟨hx, hb, hml, hown, hts⟩ (c_X0_spread l D cI cZ cO H.size gR gD gK gV f0 f1 bt lc si o0 o1 o2 o3 o4 o5 o6 xs ys rf bo pr bu n k (nI wn) wt (mkM (fun g => decide (rf g = (rf a0))) n) wn a0 rf (by first | assumption | omega | rfl) (by first | assumption | omega | rfl) (by first | assumption | omega | rfl) (by first | assumption | omega | rfl) (by first | assumption | omega | rfl)) (cwV 4 hts gX0_burnFrom_X0_spread rfl rfl rfl (by decide +kernel) ⟨Nat.le_of_ble_eq_true rfl, Nat.le_of_ble_eq_true rfl⟩) (xGdc gR gD gK gV) (xGdc gR gD gK gV) (fun _ _ _ h => h) hG hP hD hK hS hA [0, 1, 2, 3, 4, 5, 6, 7, 8] [] [0, 1, 2, 3, 4, 5, 6, 7, 8] rfl rfl rfl rfl rfl 0 rfl rfl rfl (fun _ => rfl) rfl rfl hl.1 (Nat.le_of_ble_eq_true rfl) dX0_burnFrom_27 ⟨Nat.zero_le _, Nat.zero_le _⟩ (fun u H locs hw hP hD hS => ?_)
    obtain ⟨z_1, z_2, z_3⟩ := u
    have hw_27 : (∀ h, h < 8 → z_1 h = fS rf xs ys n (nI wn) a0 98 h) ∧ z_2 = mkM (litB (fS rf xs ys n (nI wn) a0 98)) n ∧ lastP (fS rf xs ys n (nI wn) a0 98) n z_3 := hw
    have hP : va_P D vwCl [(f0, .inr (0, [.ref f1, .int (nI z_2), .int (nI z_3)])), (f1, .inl (cI, 8, .inl z_1)), (o0, .inr (7, [.ref o1, .ref o2, .ref o3, .ref o4, .ref o5, .ref o6, .int (nI n), .int (nI k), .int (nI wn), .int (bb wt)])), (o1, .inl (cI, 8, .inl xs)), (o2, .inl (cI, 8, .inl ys)), (o3, .inl (cI, 8, .inl rf)), (o4, .inl (cI, 8, .inl bo)), (o5, .inl (cI, 4, .inl pr)), (o6, .inl (cI, 4, .inl bu))] H := hP
    have hD : va_D A [(f0, .inr (0, [.ref f1, .int (nI z_2), .int (nI z_3)])), (f1, .inl (cI, 8, .inl z_1)), (o0, .inr (7, [.ref o1, .ref o2, .ref o3, .ref o4, .ref o5, .ref o6, .int (nI n), .int (nI k), .int (nI wn), .int (bb wt)])), (o1, .inl (cI, 8, .inl xs)), (o2, .inl (cI, 8, .inl ys)), (o3, .inl (cI, 8, .inl rf)), (o4, .inl (cI, 8, .inl bo)), (o5, .inl (cI, 4, .inl pr)), (o6, .inl (cI, 4, .inl bu))] := hD
    refine lv_iconst (v := (1 : Int32)) hx hb dX0_burnFrom_30 (by decide) ?_
    exact hret _ (true, z_1, nI z_2, nI z_3) _ _ _ _ (rfl) (⟨rfl, (decide_eq_true b_5).symm, fun _ => ⟨hw_27.1, _, _, rfl, rfl, hw_27.2⟩⟩) hP hD hS dX0_burnFrom_31
  ·
    have b_5 : (decide (0 < prOf bu k (rf a0))) = false := bb_eq0 c_5
    have b_5 := of_decide_eq_false b_5
    refine lv_iconst (v := (0 : Int32)) hx hb dX0_burnFrom_8 (by decide) ?_
    exact hret _ (false, si, bt, lc) _ _ _ _ (rfl) (⟨rfl, (decide_eq_false b_5).symm, fun q => absurd q Bool.false_ne_true⟩) hP hD hS dX0_burnFrom_9

set_option maxHeartbeats 4000000 in
set_option maxRecDepth 100000 in
theorem c_X0_howMany (l : Launch) (D : va_G) (cI cZ cO : ClassId) (sz : Nat) (f0 : Nat) (f1 : Nat) (bn : Nat) (lc : Int32) (si : Nat → Int32) (hb2 : bn < 256) : xMi l yX0_howMany wsX0_howMany (1) (20) D (TY cI cZ cO) xG0 [.ref f0] [(f0, .inr (0, [.ref f1, .int (nI bn), .int lc])), (f1, .inl (cI, 8, .inl si))] sz (fun (rv_ : Int32) (u : Unit) => rv_ = (nI (popc bn)) ∧ (True)) (fun (u : Unit) => [(f0, .inr (0, [.ref f1, .int (nI bn), .int lc])), (f1, .inl (cI, 8, .inl si))]) := by
  refine xMi.of (cc := cX0_howMany) (maxL := 1) (by decide +kernel) rfl (Nat.le_of_ble_eq_true rfl) ?_
  intro p e s m below meth c A Q H hx hb hml hown hts hA hP hD hK hS hG hret ls hl
  have hown : s.vm.findClass RX0 = some m.cls := hown
  have hP : va_P D vwCl [(f0, .inr (0, [.ref f1, .int (nI bn), .int lc])), (f1, .inl (cI, 8, .inl si))] H := hP
  have hD : va_D A [(f0, .inr (0, [.ref f1, .int (nI bn), .int lc])), (f1, .inl (cI, 8, .inl si))] := hD
  have hl : lv_has ls 1 [(0, .ref f0)] := hl
  have w_0 := hts (.fieldLink RX0 36 "UnlikeRoofs$Fire" "burnt" "I") (List.mem_of_getElem? (i := 1) (by rfl))
  have hin_X0 : ∀ w ∈ wsX00, w ∈ wsX0_howMany := fun _ h => List.mem_cons_of_mem _ (List.mem_append_right _ h)
  have _h0 : True := trivial
  refine lv_aload_n hx hb dX0_howMany_0 rfl (lv_at hl 0 rfl) ?_
  refine va_get (D := D) (ci := 0) (v := .int (nI bn)) (C := RX0) (T := TX0) (N := 3) hx hb hts hin_X0 hown hK hP 0 rfl rfl 1 (by decide) w_0 (fun _ h9 => h9) rfl dX0_howMany_1 ?_
  refine xcS_i (As := [.int (nI bn)]) (rest := []) (wc := []) (wr := [(f0, .inr (0, [.ref f1, .int (nI bn), .int lc])), (f1, .inl (cI, 8, .inl si))]) (w3 := fun (u : Unit) => [(f0, .inr (0, [.ref f1, .int (nI bn), .int lc])), (f1, .inl (cI, 8, .inl si))]) ⟨hx, hb, hml, hown, hts⟩ (c_J6_bitCount_0f7a4 l D cI cZ cO H.size bn (by first | assumption | omega | rfl)) (va_cwS 1 hts gX0_howMany_J6_bitCount_0f7a4 rfl rfl rfl (by decide +kernel) ⟨Nat.le_of_ble_eq_true rfl, Nat.le_of_ble_eq_true rfl⟩) xGd0 xGd0 (fun _ _ _ _ => trivial) hG hP hD hK hS hA [] [0, 1] [0, 1] rfl rfl rfl rfl rfl rfl (fun _ => rfl) rfl rfl hl.1 (Nat.le_of_ble_eq_true rfl) dX0_howMany_4 ⟨Nat.zero_le _, Nat.zero_le _⟩ (fun r u H locs hw hP hD hS => ?_)
  obtain ⟨rfl, hw⟩ := hw
  have hw_4 : True := hw
  have hP : va_P D vwCl [(f0, .inr (0, [.ref f1, .int (nI bn), .int lc])), (f1, .inl (cI, 8, .inl si))] H := hP
  have hD : va_D A [(f0, .inr (0, [.ref f1, .int (nI bn), .int lc])), (f1, .inl (cI, 8, .inl si))] := hD
  exact hret _ () _ _ _ _ (rfl) (⟨rfl, trivial⟩) hP hD hS dX0_howMany_7
