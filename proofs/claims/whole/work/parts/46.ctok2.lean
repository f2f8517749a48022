set_option maxHeartbeats 4000000 in
set_option maxRecDepth 100000 in
theorem c_X7_spells (l : Launch) (D : va_G) (cI cZ cO : ClassId) (sz : Nat) (gR : Nat) (gD : Nat) (gK : Nat → Nat) (gV : Nat → Nat) (k0 : Nat) (k1 : Nat) (k2 : Nat) (k3 : Nat) (tz : Nat) (ta : Nat) (tv_ : Nat) (tkk : Nat → Nat) (tkv : Nat → Nat) (tks : Nat → Nat) (n1 : Nat) (nx : Nat) (t0 : Nat) (t1 : Nat) (ty : Nat) (bt : Nat → Nat) (i : Nat) (hty : ty ≤ 300) (hF : fOK bt ty) (h1 : n1 ≤ nx) (h2 : nx ≤ ty) (hi : i < 10) : xMi l yX7_spells wsX7_spells (4) (85) D (TY cI cZ cO) (xGc gR gD gK gV) [.ref k0, .ref t0, .ref (gK i)] [(k0, .inr (6, [.ref k1, .ref k2, .ref k3, .int (nI tz), .int (nI ta), .int (nI n1), .int (nI nx), .int (nI tv_)])), (k1, .inl (cI, 301, .inl (rI tkk))), (k2, .inl (cI, 301, .inl (rI tkv))), (k3, .inl (cI, 301, .inl (rI tks))), (t0, .inr (5, [.ref t1, .int (nI ty)])), (t1, .inl (cI, 300, .inl (rI bt)))] sz (fun (rv_ : Int32) (u : Unit) => rv_ = (bb (spB bt n1 (nx - n1) i)) ∧ (True)) (fun (u : Unit) => [(k0, .inr (6, [.ref k1, .ref k2, .ref k3, .int (nI tz), .int (nI ta), .int (nI n1), .int (nI nx), .int (nI tv_)])), (k1, .inl (cI, 301, .inl (rI tkk))), (k2, .inl (cI, 301, .inl (rI tkv))), (k3, .inl (cI, 301, .inl (rI tks))), (t0, .inr (5, [.ref t1, .int (nI ty)])), (t1, .inl (cI, 300, .inl (rI bt)))]) := by
  refine xMi.of (cc := cX7_spells) (maxL := 4) (by decide +kernel) rfl (Nat.le_of_ble_eq_true rfl) ?_
  intro p e s m below meth c A Q H hx hb hml hown hts hA hP hD hK hS hG hret ls hl
  have hown : s.vm.findClass RX7 = some m.cls := hown
  have hP : va_P D vwCl [(k0, .inr (6, [.ref k1, .ref k2, .ref k3, .int (nI tz), .int (nI ta), .int (nI n1), .int (nI nx), .int (nI tv_)])), (k1, .inl (cI, 301, .inl (rI tkk))), (k2, .inl (cI, 301, .inl (rI tkv))), (k3, .inl (cI, 301, .inl (rI tks))), (t0, .inr (5, [.ref t1, .int (nI ty)])), (t1, .inl (cI, 300, .inl (rI bt)))] H := hP
  have hD : va_D A [(k0, .inr (6, [.ref k1, .ref k2, .ref k3, .int (nI tz), .int (nI ta), .int (nI n1), .int (nI nx), .int (nI tv_)])), (k1, .inl (cI, 301, .inl (rI tkk))), (k2, .inl (cI, 301, .inl (rI tkv))), (k3, .inl (cI, 301, .inl (rI tks))), (t0, .inr (5, [.ref t1, .int (nI ty)])), (t1, .inl (cI, 300, .inl (rI bt)))] := hD
  have hl : lv_has ls 4 [(0, .ref k0), (1, .ref t0), (2, .ref (gK i))] := hl
  have w_0 := hts (.fieldLink RX7 28 "UnlikeRoofs$Tokens" "next" "I") (List.mem_of_getElem? (i := 1) (by rfl))
  have w_1 := hts (.fieldLink RX7 38 "UnlikeRoofs$Tokens" "start" "I") (List.mem_of_getElem? (i := 2) (by rfl))
  have hin_X7 : ∀ w ∈ wsX70, w ∈ wsX7_spells := fun _ h => List.mem_cons_of_mem _ (List.mem_append_left _ (List.mem_append_right _ h))
  have _h0 : True := trivial
  refine lv_aload_n hx hb dX7_spells_0 rfl (lv_at hl 2 rfl) ?_
  have hl5 := wl_5 hi
  refine xcT_i (As := []) (rest := []) (wc := []) (wr := [(k0, .inr (6, [.ref k1, .ref k2, .ref k3, .int (nI tz), .int (nI ta), .int (nI n1), .int (nI nx), .int (nI tv_)])), (k1, .inl (cI, 301, .inl (rI tkk))), (k2, .inl (cI, 301, .inl (rI tkv))), (k3, .inl (cI, 301, .inl (rI tks))), (t0, .inr (5, [.ref t1, .int (nI ty)])), (t1, .inl (cI, 300, .inl (rI bt)))]) (w3 := fun (u : Unit) => [(k0, .inr (6, [.ref k1, .ref k2, .ref k3, .int (nI tz), .int (nI ta), .int (nI n1), .int (nI nx), .int (nI tv_)])), (k1, .inl (cI, 301, .inl (rI tkk))), (k2, .inl (cI, 301, .inl (rI tkv))), (k3, .inl (cI, 301, .inl (rI tks))), (t0, .inr (5, [.ref t1, .int (nI ty)])), (t1, .inl (cI, 300, .inl (rI bt)))]) ⟨hx, hb, hml, hown, hts⟩ (c_J0_length_8abf5 l D cI cZ cO H.size gR gD gK gV i (by first | assumption | omega | rfl)) (cwV 0 hts gX7_spells_J0_length_8abf5 rfl rfl rfl (by decide +kernel) ⟨Nat.le_of_ble_eq_true rfl, Nat.le_of_ble_eq_true rfl⟩) (xGdc gR gD gK gV) (xGdc gR gD gK gV) (fun _ _ _ h => h) hG hP hD hK hS hA [] [0, 1, 2, 3, 4, 5] [0, 1, 2, 3, 4, 5] rfl rfl rfl rfl rfl (vk_recv hG.2.2.2.1 (i := i) (by assumption) hS) rfl (fun _ => rfl) rfl rfl hl.1 (Nat.le_of_ble_eq_true rfl) dX7_spells_1 ⟨Nat.zero_le _, Nat.zero_le _⟩ (fun r u H locs hw hP hD hS => ?_)
  obtain ⟨rfl, hw⟩ := hw
  have hw_1 : True := hw
  have hP : va_P D vwCl [(k0, .inr (6, [.ref k1, .ref k2, .ref k3, .int (nI tz), .int (nI ta), .int (nI n1), .int (nI nx), .int (nI tv_)])), (k1, .inl (cI, 301, .inl (rI tkk))), (k2, .inl (cI, 301, .inl (rI tkv))), (k3, .inl (cI, 301, .inl (rI tks))), (t0, .inr (5, [.ref t1, .int (nI ty)])), (t1, .inl (cI, 300, .inl (rI bt)))] H := hP
  have hD : va_D A [(k0, .inr (6, [.ref k1, .ref k2, .ref k3, .int (nI tz), .int (nI ta), .int (nI n1), .int (nI nx), .int (nI tv_)])), (k1, .inl (cI, 301, .inl (rI tkk))), (k2, .inl (cI, 301, .inl (rI tkv))), (k3, .inl (cI, 301, .inl (rI tks))), (t0, .inr (5, [.ref t1, .int (nI ty)])), (t1, .inl (cI, 300, .inl (rI bt)))] := hD
  refine lv_aload_n hx hb dX7_spells_4 rfl (lv_at hl 0 rfl) ?_
  refine va_get (D := D) (ci := 6) (v := .int (nI nx)) (C := RX7) (T := TX7) (N := 8) hx hb hts hin_X7 hown hK hP 0 rfl rfl 6 (by decide) w_0 (fun _ h9 => h9) rfl dX7_spells_5 ?_
  refine lv_aload_n hx hb dX7_spells_8 rfl (lv_at hl 0 rfl) ?_
  refine va_get (D := D) (ci := 6) (v := .int (nI n1)) (C := RX7) (T := TX7) (N := 8) hx hb hts hin_X7 hown hK hP 0 rfl rfl 5 (by decide) w_1 (fun _ h9 => h9) rfl dX7_spells_9 ?_
  refine lv_isub hx hb dX7_spells_12 ?_
  refine lv_topr (x' := nI (nx - n1)) (pk_sub (by omega)) ?_
  refine lv_icmp_eq (tgt := 18) hx hb dX7_spells_13 (by decide) (fun c_13 => ?_) (fun c_13 => ?_)
  ·
    have n_13 : (wlN i) = (nx - n1) := (nI_eq (show (wlN i) < 2147483648 by omega) (show (nx - n1) < 2147483648 by omega)).1 c_13
    refine lv_iconst (v := (0 : Int32)) hx hb dX7_spells_18 (by decide) ?_
    refine lv_istore_n (lv' := [(3, .int (0 : Int32)), (0, .ref k0), (1, .ref t0), (2, .ref (gK i))]) hx hb dX7_spells_19 rfl hl (by decide) rfl (fun ls hl => ?_)
    have L_20 : ∀ (fuel : Nat) (j : Nat), (j ≤ wlN i) → (eqN bt n1 i j = true) → (wlN i - j) < fuel → ∀ (H : Heap) (locs : List Loc), va_P D vwCl [(k0, .inr (6, [.ref k1, .ref k2, .ref k3, .int (nI tz), .int (nI ta), .int (nI n1), .int (nI nx), .int (nI tv_)])), (k1, .inl (cI, 301, .inl (rI tkk))), (k2, .inl (cI, 301, .inl (rI tkv))), (k3, .inl (cI, 301, .inl (rI tks))), (t0, .inr (5, [.ref t1, .int (nI ty)])), (t1, .inl (cI, 300, .inl (rI bt)))] H → va_D A [(k0, .inr (6, [.ref k1, .ref k2, .ref k3, .int (nI tz), .int (nI ta), .int (nI n1), .int (nI nx), .int (nI tv_)])), (k1, .inl (cI, 301, .inl (rI tkk))), (k2, .inl (cI, 301, .inl (rI tkv))), (k3, .inl (cI, 301, .inl (rI tks))), (t0, .inr (5, [.ref t1, .int (nI ty)])), (t1, .inl (cI, 300, .inl (rI bt)))] → va_S A s.heap H locs → ∀ ls : Array Slot, lv_has ls 4 [(3, .int (nI j)), (0, .ref k0), (1, .ref t0), (2, .ref (gK i))] → W p l e (xRm 4 85) s m ([.ref k0, .ref t0, .ref (gK i)] : List Value).toArray below meth c H locs 0 0 Q (F0 m 20 ls []) := by
      intro fuel
      induction fuel with
      | zero =>
        intro j hj heq hm
        exact absurd hm (Nat.not_lt_zero _)
      | succ fuel ih_20 =>
        intro j hj heq hm_20 H locs hP hD hS ls hl
        have hl5 := wl_5 hi
        refine lv_iload_n hx hb dX7_spells_20 rfl (lv_at hl 0 rfl) ?_
        refine lv_aload_n hx hb dX7_spells_21 rfl (lv_at hl 3 rfl) ?_
        refine xcT_i (As := []) (rest := [.int (nI j)]) (wc := []) (wr := [(k0, .inr (6, [.ref k1, .ref k2, .ref k3, .int (nI tz), .int (nI ta), .int (nI n1), .int (nI nx), .int (nI tv_)])), (k1, .inl (cI, 301, .inl (rI tkk))), (k2, .inl (cI, 301, .inl (rI tkv))), (k3, .inl (cI, 301, .inl (rI tks))), (t0, .inr (5, [.ref t1, .int (nI ty)])), (t1, .inl (cI, 300, .inl (rI bt)))]) (w3 := fun (u : Unit) => [(k0, .inr (6, [.ref k1, .ref k2, .ref k3, .int (nI tz), .int (nI ta), .int (nI n1), .int (nI nx), .int (nI tv_)])), (k1, .inl (cI, 301, .inl (rI tkk))), (k2, .inl (cI, 301, .inl (rI tkv))), (k3, .inl (cI, 301, .inl (rI tks))), (t0, .inr (5, [.ref t1, .int (nI ty)])), (t1, .inl (cI, 300, .inl (rI bt)))]) ⟨hx, hb, hml, hown, hts⟩ (c_J0_length_8abf5 l D cI cZ cO H.size gR gD gK gV i (by first | assumption | omega | rfl)) (cwV 0 hts gX7_spells_J0_length_8abf5 rfl rfl rfl (by decide +kernel) ⟨Nat.le_of_ble_eq_true rfl, Nat.le_of_ble_eq_true rfl⟩) (xGdc gR gD gK gV) (xGdc gR gD gK gV) (fun _ _ _ h => h) hG hP hD hK hS hA [] [0, 1, 2, 3, 4, 5] [0, 1, 2, 3, 4, 5] rfl rfl rfl rfl rfl (vk_recv hG.2.2.2.1 (i := i) (by assumption) hS) rfl (fun _ => rfl) rfl rfl hl.1 (Nat.le_of_ble_eq_true rfl) dX7_spells_22 ⟨Nat.zero_le _, Nat.zero_le _⟩ (fun r u H locs hw hP hD hS => ?_)
        obtain ⟨rfl, hw⟩ := hw
        have hw_22 : True := hw
        have hP : va_P D vwCl [(k0, .inr (6, [.ref k1, .ref k2, .ref k3, .int (nI tz), .int (nI ta), .int (nI n1), .int (nI nx), .int (nI tv_)])), (k1, .inl (cI, 301, .inl (rI tkk))), (k2, .inl (cI, 301, .inl (rI tkv))), (k3, .inl (cI, 301, .inl (rI tks))), (t0, .inr (5, [.ref t1, .int (nI ty)])), (t1, .inl (cI, 300, .inl (rI bt)))] H := hP
        have hD : va_D A [(k0, .inr (6, [.ref k1, .ref k2, .ref k3, .int (nI tz), .int (nI ta), .int (nI n1), .int (nI nx), .int (nI tv_)])), (k1, .inl (cI, 301, .inl (rI tkk))), (k2, .inl (cI, 301, .inl (rI tkv))), (k3, .inl (cI, 301, .inl (rI tks))), (t0, .inr (5, [.ref t1, .int (nI ty)])), (t1, .inl (cI, 300, .inl (rI bt)))] := hD
        refine lv_icmp_ge (tgt := 54) hx hb dX7_spells_25 (by decide) (fun c_25 => ?_) (fun c_25 => ?_)
        ·
          have n_25 : (wlN i) ≤ j := (nI_leI (show (wlN i) < 2147483648 by omega) (show j < 2147483648 by omega)).1 c_25
          refine lv_iconst (v := (1 : Int32)) hx hb dX7_spells_54 (by decide) ?_
          exact hret _ () _ _ _ _ (rfl) (⟨by rw [show j = wlN i by omega] at heq; rw [spB, decide_eq_true n_13, heq]; rfl, trivial⟩) hP hD hS dX7_spells_55
        ·
          have n_25 : j < (wlN i) := Nat.lt_of_not_le (fun q => c_25 ((nI_leI (show (wlN i) < 2147483648 by omega) (show j < 2147483648 by omega)).2 q))
          refine lv_aload_n hx hb dX7_spells_28 rfl (lv_at hl 3 rfl) ?_
          refine lv_iload_n hx hb dX7_spells_29 rfl (lv_at hl 0 rfl) ?_
          refine xcT_i (As := [.int (nI j)]) (rest := []) (wc := []) (wr := [(k0, .inr (6, [.ref k1, .ref k2, .ref k3, .int (nI tz), .int (nI ta), .int (nI n1), .int (nI nx), .int (nI tv_)])), (k1, .inl (cI, 301, .inl (rI tkk))), (k2, .inl (cI, 301, .inl (rI tkv))), (k3, .inl (cI, 301, .inl (rI tks))), (t0, .inr (5, [.ref t1, .int (nI ty)])), (t1, .inl (cI, 300, .inl (rI bt)))]) (w3 := fun (u : Unit) => [(k0, .inr (6, [.ref k1, .ref k2, .ref k3, .int (nI tz), .int (nI ta), .int (nI n1), .int (nI nx), .int (nI tv_)])), (k1, .inl (cI, 301, .inl (rI tkk))), (k2, .inl (cI, 301, .inl (rI tkv))), (k3, .inl (cI, 301, .inl (rI tks))), (t0, .inr (5, [.ref t1, .int (nI ty)])), (t1, .inl (cI, 300, .inl (rI bt)))]) ⟨hx, hb, hml, hown, hts⟩ (c_J0_charAt_5068e l D cI cZ cO H.size gR gD gK gV i j (by first | assumption | omega | rfl) (by first | assumption | omega | rfl)) (cwV 1 hts gX7_spells_J0_charAt_5068e rfl rfl rfl (by decide +kernel) ⟨Nat.le_of_ble_eq_true rfl, Nat.le_of_ble_eq_true rfl⟩) (xGdc gR gD gK gV) (xGdc gR gD gK gV) (fun _ _ _ h => h) hG hP hD hK hS hA [] [0, 1, 2, 3, 4, 5] [0, 1, 2, 3, 4, 5] rfl rfl rfl rfl rfl (vk_recv hG.2.2.2.1 (i := i) (by assumption) hS) rfl (fun _ => rfl) rfl rfl hl.1 (Nat.le_of_ble_eq_true rfl) dX7_spells_30 ⟨Nat.zero_le _, Nat.zero_le _⟩ (fun r u H locs hw hP hD hS => ?_)
          obtain ⟨rfl, hw⟩ := hw
          have hw_30 : True := hw
          have hP : va_P D vwCl [(k0, .inr (6, [.ref k1, .ref k2, .ref k3, .int (nI tz), .int (nI ta), .int (nI n1), .int (nI nx), .int (nI tv_)])), (k1, .inl (cI, 301, .inl (rI tkk))), (k2, .inl (cI, 301, .inl (rI tkv))), (k3, .inl (cI, 301, .inl (rI tks))), (t0, .inr (5, [.ref t1, .int (nI ty)])), (t1, .inl (cI, 300, .inl (rI bt)))] H := hP
          have hD : va_D A [(k0, .inr (6, [.ref k1, .ref k2, .ref k3, .int (nI tz), .int (nI ta), .int (nI n1), .int (nI nx), .int (nI tv_)])), (k1, .inl (cI, 301, .inl (rI tkk))), (k2, .inl (cI, 301, .inl (rI tkv))), (k3, .inl (cI, 301, .inl (rI tks))), (t0, .inr (5, [.ref t1, .int (nI ty)])), (t1, .inl (cI, 300, .inl (rI bt)))] := hD
          refine lv_aload_n hx hb dX7_spells_33 rfl (lv_at hl 2 rfl) ?_
          refine lv_aload_n hx hb dX7_spells_34 rfl (lv_at hl 1 rfl) ?_
          refine va_get (D := D) (ci := 6) (v := .int (nI n1)) (C := RX7) (T := TX7) (N := 8) hx hb hts hin_X7 hown hK hP 0 rfl rfl 5 (by decide) w_1 (fun _ h9 => h9) rfl dX7_spells_35 ?_
          refine lv_iload_n hx hb dX7_spells_38 rfl (lv_at hl 0 rfl) ?_
          refine lv_iadd hx hb dX7_spells_39 ?_
          refine lv_topr (x' := nI (n1 + j)) (nI_add n1 j) ?_
          refine xcV_i (As := [.int (nI (n1 + j))]) (rest := [.int (wbI i j)]) (wc := [(t0, .inr (5, [.ref t1, .int (nI ty)])), (t1, .inl (cI, 300, .inl (rI bt)))]) (wr := [(k0, .inr (6, [.ref k1, .ref k2, .ref k3, .int (nI tz), .int (nI ta), .int (nI n1), .int (nI nx), .int (nI tv_)])), (k1, .inl (cI, 301, .inl (rI tkk))), (k2, .inl (cI, 301, .inl (rI tkv))), (k3, .inl (cI, 301, .inl (rI tks)))]) (w3 := fun (u : Unit) => [(k0, .inr (6, [.ref k1, .ref k2, .ref k3, .int (nI tz), .int (nI ta), .int (nI n1), .int (nI nx), .int (nI tv_)])), (k1, .inl (cI, 301, .inl (rI tkk))), (k2, .inl (cI, 301, .inl (rI tkv))), (k3, .inl (cI, 301, .inl (rI tks))), (t0, .inr (5, [.ref t1, .int (nI ty)])), (t1, .inl (cI, 300, .inl (rI bt)))]) ⟨hx, hb, hml, hown, hts⟩ (c_X6_byteAt l D cI cZ cO H.size t0 t1 ty bt (n1 + j) (by first | assumption | omega | rfl) (by omega)) (cwV 1 hts gX7_spells_X6_byteAt rfl rfl rfl (by decide +kernel) ⟨Nat.le_of_ble_eq_true rfl, Nat.le_of_ble_eq_true rfl⟩) (xGdc gR gD gK gV) xGd0 (fun _ _ _ _ => trivial) hG hP hD hK hS hA [4, 5] [0, 1, 2, 3] [0, 1, 2, 3, 4, 5] rfl rfl rfl rfl rfl 4 rfl rfl rfl (fun _ => rfl) rfl rfl hl.1 (Nat.le_of_ble_eq_true rfl) dX7_spells_40 ⟨Nat.zero_le _, Nat.zero_le _⟩ (fun r u H locs hw hP hD hS => ?_)
          obtain ⟨rfl, hw⟩ := hw
          have hw_40 : True := hw
          have hP : va_P D vwCl [(k0, .inr (6, [.ref k1, .ref k2, .ref k3, .int (nI tz), .int (nI ta), .int (nI n1), .int (nI nx), .int (nI tv_)])), (k1, .inl (cI, 301, .inl (rI tkk))), (k2, .inl (cI, 301, .inl (rI tkv))), (k3, .inl (cI, 301, .inl (rI tks))), (t0, .inr (5, [.ref t1, .int (nI ty)])), (t1, .inl (cI, 300, .inl (rI bt)))] H := hP
          have hD : va_D A [(k0, .inr (6, [.ref k1, .ref k2, .ref k3, .int (nI tz), .int (nI ta), .int (nI n1), .int (nI nx), .int (nI tv_)])), (k1, .inl (cI, 301, .inl (rI tkk))), (k2, .inl (cI, 301, .inl (rI tkv))), (k3, .inl (cI, 301, .inl (rI tks))), (t0, .inr (5, [.ref t1, .int (nI ty)])), (t1, .inl (cI, 300, .inl (rI bt)))] := hD
          refine lv_topr (x' := nI (bt (n1 + j))) (if_pos (by omega)) ?_
          refine lv_icmp_eq (tgt := 48) hx hb dX7_spells_43 (by decide) (fun c_43 => ?_) (fun c_43 => ?_)
          ·
            refine lv_iinc (v := nI (j + 1)) (lv' := [(3, .int (nI (j + 1))), (0, .ref k0), (1, .ref t0), (2, .ref (gK i))]) hx hb dX7_spells_48 hl (k := 0) rfl (by first | rfl | exact nI_add _ 1 | (simp only [] ; exact nI_add _ 1)) (by decide) rfl (fun ls hl => ?_)
            refine lv_goto (tgt := 20) hx hb dX7_spells_51 (by decide) ?_
            exact ih_20 (j + 1) (by omega) (eqN_up heq c_43) (by omega) _ _ hP hD hS _ (lv_sub hl [0, 1, 2, 3] rfl)
          ·
            refine lv_iconst (v := (0 : Int32)) hx hb dX7_spells_46 (by decide) ?_
            exact hret _ () _ _ _ _ (rfl) (⟨by rw [spB, eqN_no (show j < wlN i by omega) c_43, Bool.and_false]; rfl, trivial⟩) hP hD hS dX7_spells_47
    exact L_20 (Nat.succ (wlN i - 0)) 0 (Nat.zero_le _) (rfl) (Nat.lt_succ_self _) _ _ hP hD hS _ (lv_sub hl [0, 1, 2, 3] rfl)
  ·
    have n_13 : ¬ (wlN i) = (nx - n1) := fun q => c_13 (congrArg nI q)
    refine lv_iconst (v := (0 : Int32)) hx hb dX7_spells_16 (by decide) ?_
    exact hret _ () _ _ _ _ (rfl) (⟨by rw [spB, decide_eq_false n_13]; rfl, trivial⟩) hP hD hS dX7_spells_17
