set_option maxHeartbeats 4000000 in
set_option maxRecDepth 100000 in
theorem c_X7_readWord (l : Launch) (D : va_G) (cI cZ cO : ClassId) (sz : Nat) (gR : Nat) (gD : Nat) (gK : Nat → Nat) (gV : Nat → Nat) (k0 : Nat) (k1 : Nat) (k2 : Nat) (k3 : Nat) (tz : Nat) (ta : Nat) (tv_ : Nat) (tkk : Nat → Nat) (tkv : Nat → Nat) (tks : Nat → Nat) (n1 : Nat) (t0 : Nat) (t1 : Nat) (ty : Nat) (bt : Nat → Nat) (hty : ty ≤ 300) (hF : fOK bt ty) (h1 : n1 < ty) : xMi l yX7_readWord wsX7_readWord (5) (108) D (TY cI cZ cO) (xGc gR gD gK gV) [.ref k0, .ref t0] [(k0, .inr (6, [.ref k1, .ref k2, .ref k3, .int (nI tz), .int (nI ta), .int (nI n1), .int (nI n1), .int (nI tv_)])), (k1, .inl (cI, 301, .inl (rI tkk))), (k2, .inl (cI, 301, .inl (rI tkv))), (k3, .inl (cI, 301, .inl (rI tks))), (t0, .inr (5, [.ref t1, .int (nI ty)])), (t1, .inl (cI, 300, .inl (rI bt)))] sz (fun (rv_ : Int32) (u : Nat) => rv_ = (nI (wkF bt ty n1)) ∧ (u = leE bt ty n1)) (fun (u : Nat) => [(k0, .inr (6, [.ref k1, .ref k2, .ref k3, .int (nI tz), .int (nI ta), .int (nI n1), .int (nI u), .int (nI tv_)])), (k1, .inl (cI, 301, .inl (rI tkk))), (k2, .inl (cI, 301, .inl (rI tkv))), (k3, .inl (cI, 301, .inl (rI tks))), (t0, .inr (5, [.ref t1, .int (nI ty)])), (t1, .inl (cI, 300, .inl (rI bt)))]) := by
  refine xMi.of (cc := cX7_readWord) (maxL := 2) (by decide +kernel) rfl (Nat.le_of_ble_eq_true rfl) ?_
  intro p e s m below meth c A Q H hx hb hml hown hts hA hP hD hK hS hG hret ls hl
  have hown : s.vm.findClass RX7 = some m.cls := hown
  have hP : va_P D vwCl [(k0, .inr (6, [.ref k1, .ref k2, .ref k3, .int (nI tz), .int (nI ta), .int (nI n1), .int (nI n1), .int (nI tv_)])), (k1, .inl (cI, 301, .inl (rI tkk))), (k2, .inl (cI, 301, .inl (rI tkv))), (k3, .inl (cI, 301, .inl (rI tks))), (t0, .inr (5, [.ref t1, .int (nI ty)])), (t1, .inl (cI, 300, .inl (rI bt)))] H := hP
  have hD : va_D A [(k0, .inr (6, [.ref k1, .ref k2, .ref k3, .int (nI tz), .int (nI ta), .int (nI n1), .int (nI n1), .int (nI tv_)])), (k1, .inl (cI, 301, .inl (rI tkk))), (k2, .inl (cI, 301, .inl (rI tkv))), (k3, .inl (cI, 301, .inl (rI tks))), (t0, .inr (5, [.ref t1, .int (nI ty)])), (t1, .inl (cI, 300, .inl (rI bt)))] := hD
  have hl : lv_has ls 2 [(0, .ref k0), (1, .ref t0)] := hl
  have w_0 := hts (.fieldLink RX7 28 "UnlikeRoofs$Tokens" "next" "I") (List.mem_of_getElem? (i := 1) (by rfl))
  have wn_0 : (Cond.fieldLinkNest RX7 45 "UnlikeRoofs$Text" "length" "I" "UnlikeRoofs").before ([.ref k0, .ref t0] : List Value).toArray s = true := va_Nw.use rfl (hG.1 (.fieldLinkNest RX7 45 "UnlikeRoofs$Text" "length" "I" "UnlikeRoofs") (List.mem_of_getElem? (i := 1) (by rfl)))
  have hin_X6 : ∀ w ∈ wsX60, w ∈ wsX7_readWord := fun _ h => List.mem_cons_of_mem _ (List.mem_append_right _ h)
  have hin_X7 : ∀ w ∈ wsX70, w ∈ wsX7_readWord := fun _ h => List.mem_cons_of_mem _ (List.mem_append_left _ (List.mem_append_right _ h))
  have _h0 : True := trivial
  have L_0 : ∀ (fuel : Nat) (n2 : Nat), (n1 ≤ n2 ∧ n2 ≤ ty) → (leE bt ty n2 = leE bt ty n1) → (ty - n2) < fuel → ∀ (H : Heap) (locs : List Loc), va_P D vwCl [(k0, .inr (6, [.ref k1, .ref k2, .ref k3, .int (nI tz), .int (nI ta), .int (nI n1), .int (nI n2), .int (nI tv_)])), (k1, .inl (cI, 301, .inl (rI tkk))), (k2, .inl (cI, 301, .inl (rI tkv))), (k3, .inl (cI, 301, .inl (rI tks))), (t0, .inr (5, [.ref t1, .int (nI ty)])), (t1, .inl (cI, 300, .inl (rI bt)))] H → va_D A [(k0, .inr (6, [.ref k1, .ref k2, .ref k3, .int (nI tz), .int (nI ta), .int (nI n1), .int (nI n2), .int (nI tv_)])), (k1, .inl (cI, 301, .inl (rI tkk))), (k2, .inl (cI, 301, .inl (rI tkv))), (k3, .inl (cI, 301, .inl (rI tks))), (t0, .inr (5, [.ref t1, .int (nI ty)])), (t1, .inl (cI, 300, .inl (rI bt)))] → va_S A s.heap H locs → ∀ ls : Array Slot, lv_has ls 2 [(0, .ref k0), (1, .ref t0)] → W p l e (xRm 5 108) s m ([.ref k0, .ref t0] : List Value).toArray below meth c H locs 0 0 Q (F0 m 0 ls []) := by
    intro fuel
    induction fuel with
    | zero =>
      intro n2 h2 hle hm
      exact absurd hm (Nat.not_lt_zero _)
    | succ fuel ih_0 =>
      intro n2 h2 hle hm_0 H locs hP hD hS ls hl
      refine lv_aload_n hx hb dX7_readWord_0 rfl (lv_at hl 0 rfl) ?_
      refine va_get (D := D) (ci := 6) (v := .int (nI n2)) (C := RX7) (T := TX7) (N := 8) hx hb hts hin_X7 hown hK hP 0 rfl rfl 6 (by decide) w_0 (fun _ h9 => h9) rfl dX7_readWord_1 ?_
      refine lv_aload_n hx hb dX7_readWord_4 rfl (lv_at hl 1 rfl) ?_
      refine va_getN (D := D) (ci := 5) (v := .int (nI ty)) (C := RX6) (T := TX6) (N := 2) hx hb hts hin_X6 hown hK hP 4 rfl rfl 1 (by decide) wn_0 (fun _ h9 => h9) rfl dX7_readWord_5 ?_
      refine lv_icmp_ge (tgt := 38) hx hb dX7_readWord_8 (by decide) (fun c_8 => ?_) (fun c_8 => ?_)
      ·
        have n_8 : ty ≤ n2 := (nI_leI (show ty < 2147483648 by omega) (show n2 < 2147483648 by omega)).1 c_8
        have hle1 : leE bt ty n1 = n2 := hle.symm.trans (runE_stop (P := ltB bt ty) (by first | exact b_22 | exact decide_eq_false (fun q => absurd q.1 (by omega))) _)
        obtain ⟨h21, h22⟩ := h2
        refine lv_aload_n hx hb dX7_readWord_38 rfl (lv_at hl 0 rfl) ?_
        refine lv_aload_n hx hb dX7_readWord_39 rfl (lv_at hl 1 rfl) ?_
        refine va_ldcS hx hb hown hG.2.2.2.2.1.1 dX7_readWord_40 ?_
        refine xcV_i (As := [.ref t0, .ref (gK 0)]) (rest := []) (wc := [(k0, .inr (6, [.ref k1, .ref k2, .ref k3, .int (nI tz), .int (nI ta), .int (nI n1), .int (nI n2), .int (nI tv_)])), (k1, .inl (cI, 301, .inl (rI tkk))), (k2, .inl (cI, 301, .inl (rI tkv))), (k3, .inl (cI, 301, .inl (rI tks))), (t0, .inr (5, [.ref t1, .int (nI ty)])), (t1, .inl (cI, 300, .inl (rI bt)))]) (wr := []) (w3 := fun (u : Unit) => [(k0, .inr (6, [.ref k1, .ref k2, .ref k3, .int (nI tz), .int (nI ta), .int (nI n1), .int (nI n2), .int (nI tv_)])), (k1, .inl (cI, 301, .inl (rI tkk))), (k2, .inl (cI, 301, .inl (rI tkv))), (k3, .inl (cI, 301, .inl (rI tks))), (t0, .inr (5, [.ref t1, .int (nI ty)])), (t1, .inl (cI, 300, .inl (rI bt)))]) ⟨hx, hb, hml, hown, hts⟩ (c_X7_spells l D cI cZ cO H.size gR gD gK gV k0 k1 k2 k3 tz ta tv_ tkk tkv tks n1 n2 t0 t1 ty bt 0 (by first | assumption | omega | rfl) (by first | assumption | omega | rfl) (by first | assumption | omega | rfl) (by first | assumption | omega | rfl) (by first | assumption | omega | rfl)) (cwV 2 hts gX7_readWord_X7_spells rfl rfl rfl (by decide +kernel) ⟨Nat.le_of_ble_eq_true rfl, Nat.le_of_ble_eq_true rfl⟩) (xGdc gR gD gK gV) (xGdc gR gD gK gV) (fun _ _ _ h => h) hG hP hD hK hS hA [0, 1, 2, 3, 4, 5] [] [0, 1, 2, 3, 4, 5] rfl rfl rfl rfl rfl 0 rfl rfl rfl (fun _ => rfl) rfl rfl hl.1 (Nat.le_of_ble_eq_true rfl) dX7_readWord_42 ⟨Nat.zero_le _, Nat.zero_le _⟩ (fun r u H locs hw hP hD hS => ?_)
        obtain ⟨rfl, hw⟩ := hw
        have hw_42 : True := hw
        have hP : va_P D vwCl [(k0, .inr (6, [.ref k1, .ref k2, .ref k3, .int (nI tz), .int (nI ta), .int (nI n1), .int (nI n2), .int (nI tv_)])), (k1, .inl (cI, 301, .inl (rI tkk))), (k2, .inl (cI, 301, .inl (rI tkv))), (k3, .inl (cI, 301, .inl (rI tks))), (t0, .inr (5, [.ref t1, .int (nI ty)])), (t1, .inl (cI, 300, .inl (rI bt)))] H := hP
        have hD : va_D A [(k0, .inr (6, [.ref k1, .ref k2, .ref k3, .int (nI tz), .int (nI ta), .int (nI n1), .int (nI n2), .int (nI tv_)])), (k1, .inl (cI, 301, .inl (rI tkk))), (k2, .inl (cI, 301, .inl (rI tkv))), (k3, .inl (cI, 301, .inl (rI tks))), (t0, .inr (5, [.ref t1, .int (nI ty)])), (t1, .inl (cI, 300, .inl (rI bt)))] := hD
        refine lv_if_eq (tgt := 52) hx hb dX7_readWord_45 (by decide) (fun c_45 => ?_) (fun c_45 => ?_)
        ·
          have b_45 : (spB bt n1 (n2 - n1) 0) = false := bb_eq0 c_45
          refine lv_aload_n hx hb dX7_readWord_52 rfl (lv_at hl 0 rfl) ?_
          refine lv_aload_n hx hb dX7_readWord_53 rfl (lv_at hl 1 rfl) ?_
          refine va_ldcS hx hb hown hG.2.2.2.2.1.2.1 dX7_readWord_54 ?_
          refine xcV_i (As := [.ref t0, .ref (gK 1)]) (rest := []) (wc := [(k0, .inr (6, [.ref k1, .ref k2, .ref k3, .int (nI tz), .int (nI ta), .int (nI n1), .int (nI n2), .int (nI tv_)])), (k1, .inl (cI, 301, .inl (rI tkk))), (k2, .inl (cI, 301, .inl (rI tkv))), (k3, .inl (cI, 301, .inl (rI tks))), (t0, .inr (5, [.ref t1, .int (nI ty)])), (t1, .inl (cI, 300, .inl (rI bt)))]) (wr := []) (w3 := fun (u : Unit) => [(k0, .inr (6, [.ref k1, .ref k2, .ref k3, .int (nI tz), .int (nI ta), .int (nI n1), .int (nI n2), .int (nI tv_)])), (k1, .inl (cI, 301, .inl (rI tkk))), (k2, .inl (cI, 301, .inl (rI tkv))), (k3, .inl (cI, 301, .inl (rI tks))), (t0, .inr (5, [.ref t1, .int (nI ty)])), (t1, .inl (cI, 300, .inl (rI bt)))]) ⟨hx, hb, hml, hown, hts⟩ (c_X7_spells l D cI cZ cO H.size gR gD gK gV k0 k1 k2 k3 tz ta tv_ tkk tkv tks n1 n2 t0 t1 ty bt 1 (by first | assumption | omega | rfl) (by first | assumption | omega | rfl) (by first | assumption | omega | rfl) (by first | assumption | omega | rfl) (by first | assumption | omega | rfl)) (cwV 2 hts gX7_readWord_X7_spells rfl rfl rfl (by decide +kernel) ⟨Nat.le_of_ble_eq_true rfl, Nat.le_of_ble_eq_true rfl⟩) (xGdc gR gD gK gV) (xGdc gR gD gK gV) (fun _ _ _ h => h) hG hP hD hK hS hA [0, 1, 2, 3, 4, 5] [] [0, 1, 2, 3, 4, 5] rfl rfl rfl rfl rfl 0 rfl rfl rfl (fun _ => rfl) rfl rfl hl.1 (Nat.le_of_ble_eq_true rfl) dX7_readWord_56 ⟨Nat.zero_le _, Nat.zero_le _⟩ (fun r u H locs hw hP hD hS => ?_)
          obtain ⟨rfl, hw⟩ := hw
          have hw_56 : True := hw
          have hP : va_P D vwCl [(k0, .inr (6, [.ref k1, .ref k2, .ref k3, .int (nI tz), .int (nI ta), .int (nI n1), .int (nI n2), .int (nI tv_)])), (k1, .inl (cI, 301, .inl (rI tkk))), (k2, .inl (cI, 301, .inl (rI tkv))), (k3, .inl (cI, 301, .inl (rI tks))), (t0, .inr (5, [.ref t1, .int (nI ty)])), (t1, .inl (cI, 300, .inl (rI bt)))] H := hP
          have hD : va_D A [(k0, .inr (6, [.ref k1, .ref k2, .ref k3, .int (nI tz), .int (nI ta), .int (nI n1), .int (nI n2), .int (nI tv_)])), (k1, .inl (cI, 301, .inl (rI tkk))), (k2, .inl (cI, 301, .inl (rI tkv))), (k3, .inl (cI, 301, .inl (rI tks))), (t0, .inr (5, [.ref t1, .int (nI ty)])), (t1, .inl (cI, 300, .inl (rI bt)))] := hD
          refine lv_if_eq (tgt := 66) hx hb dX7_readWord_59 (by decide) (fun c_59 => ?_) (fun c_59 => ?_)
          ·
            have b_59 : (spB bt n1 (n2 - n1) 1) = false := bb_eq0 c_59
            refine lv_aload_n hx hb dX7_readWord_66 rfl (lv_at hl 0 rfl) ?_
            refine lv_aload_n hx hb dX7_readWord_67 rfl (lv_at hl 1 rfl) ?_
            refine va_ldcS hx hb hown hG.2.2.2.2.1.2.2.1 dX7_readWord_68 ?_
            refine xcV_i (As := [.ref t0, .ref (gK 2)]) (rest := []) (wc := [(k0, .inr (6, [.ref k1, .ref k2, .ref k3, .int (nI tz), .int (nI ta), .int (nI n1), .int (nI n2), .int (nI tv_)])), (k1, .inl (cI, 301, .inl (rI tkk))), (k2, .inl (cI, 301, .inl (rI tkv))), (k3, .inl (cI, 301, .inl (rI tks))), (t0, .inr (5, [.ref t1, .int (nI ty)])), (t1, .inl (cI, 300, .inl (rI bt)))]) (wr := []) (w3 := fun (u : Unit) => [(k0, .inr (6, [.ref k1, .ref k2, .ref k3, .int (nI tz), .int (nI ta), .int (nI n1), .int (nI n2), .int (nI tv_)])), (k1, .inl (cI, 301, .inl (rI tkk))), (k2, .inl (cI, 301, .inl (rI tkv))), (k3, .inl (cI, 301, .inl (rI tks))), (t0, .inr (5, [.ref t1, .int (nI ty)])), (t1, .inl (cI, 300, .inl (rI bt)))]) ⟨hx, hb, hml, hown, hts⟩ (c_X7_spells l D cI cZ cO H.size gR gD gK gV k0 k1 k2 k3 tz ta tv_ tkk tkv tks n1 n2 t0 t1 ty bt 2 (by first | assumption | omega | rfl) (by first | assumption | omega | rfl) (by first | assumption | omega | rfl) (by first | assumption | omega | rfl) (by first | assumption | omega | rfl)) (cwV 2 hts gX7_readWord_X7_spells rfl rfl rfl (by decide +kernel) ⟨Nat.le_of_ble_eq_true rfl, Nat.le_of_ble_eq_true rfl⟩) (xGdc gR gD gK gV) (xGdc gR gD gK gV) (fun _ _ _ h => h) hG hP hD hK hS hA [0, 1, 2, 3, 4, 5] [] [0, 1, 2, 3, 4, 5] rfl rfl rfl rfl rfl 0 rfl rfl rfl (fun _ => rfl) rfl rfl hl.1 (Nat.le_of_ble_eq_true rfl) dX7_readWord_70 ⟨Nat.zero_le _, Nat.zero_le _⟩ (fun r u H locs hw hP hD hS => ?_)
            obtain ⟨rfl, hw⟩ := hw
            have hw_70 : True := hw
            have hP : va_P D vwCl [(k0, .inr (6, [.ref k1, .ref k2, .ref k3, .int (nI tz), .int (nI ta), .int (nI n1), .int (nI n2), .int (nI tv_)])), (k1, .inl (cI, 301, .inl (rI tkk))), (k2, .inl (cI, 301, .inl (rI tkv))), (k3, .inl (cI, 301, .inl (rI tks))), (t0, .inr (5, [.ref t1, .int (nI ty)])), (t1, .inl (cI, 300, .inl (rI bt)))] H := hP
            have hD : va_D A [(k0, .inr (6, [.ref k1, .ref k2, .ref k3, .int (nI tz), .int (nI ta), .int (nI n1), .int (nI n2), .int (nI tv_)])), (k1, .inl (cI, 301, .inl (rI tkk))), (k2, .inl (cI, 301, .inl (rI tkv))), (k3, .inl (cI, 301, .inl (rI tks))), (t0, .inr (5, [.ref t1, .int (nI ty)])), (t1, .inl (cI, 300, .inl (rI bt)))] := hD
            refine lv_if_eq (tgt := 81) hx hb dX7_readWord_73 (by decide) (fun c_73 => ?_) (fun c_73 => ?_)
            ·
              have b_73 : (spB bt n1 (n2 - n1) 2) = false := bb_eq0 c_73
              refine lv_aload_n hx hb dX7_readWord_81 rfl (lv_at hl 0 rfl) ?_
              refine lv_aload_n hx hb dX7_readWord_82 rfl (lv_at hl 1 rfl) ?_
              refine va_ldcS hx hb hown hG.2.2.2.2.1.2.2.2.1 dX7_readWord_83 ?_
              refine xcV_i (As := [.ref t0, .ref (gK 3)]) (rest := []) (wc := [(k0, .inr (6, [.ref k1, .ref k2, .ref k3, .int (nI tz), .int (nI ta), .int (nI n1), .int (nI n2), .int (nI tv_)])), (k1, .inl (cI, 301, .inl (rI tkk))), (k2, .inl (cI, 301, .inl (rI tkv))), (k3, .inl (cI, 301, .inl (rI tks))), (t0, .inr (5, [.ref t1, .int (nI ty)])), (t1, .inl (cI, 300, .inl (rI bt)))]) (wr := []) (w3 := fun (u : Unit) => [(k0, .inr (6, [.ref k1, .ref k2, .ref k3, .int (nI tz), .int (nI ta), .int (nI n1), .int (nI n2), .int (nI tv_)])), (k1, .inl (cI, 301, .inl (rI tkk))), (k2, .inl (cI, 301, .inl (rI tkv))), (k3, .inl (cI, 301, .inl (rI tks))), (t0, .inr (5, [.ref t1, .int (nI ty)])), (t1, .inl (cI, 300, .inl (rI bt)))]) ⟨hx, hb, hml, hown, hts⟩ (c_X7_spells l D cI cZ cO H.size gR gD gK gV k0 k1 k2 k3 tz ta tv_ tkk tkv tks n1 n2 t0 t1 ty bt 3 (by first | assumption | omega | rfl) (by first | assumption | omega | rfl) (by first | assumption | omega | rfl) (by first | assumption | omega | rfl) (by first | assumption | omega | rfl)) (cwV 2 hts gX7_readWord_X7_spells rfl rfl rfl (by decide +kernel) ⟨Nat.le_of_ble_eq_true rfl, Nat.le_of_ble_eq_true rfl⟩) (xGdc gR gD gK gV) (xGdc gR gD gK gV) (fun _ _ _ h => h) hG hP hD hK hS hA [0, 1, 2, 3, 4, 5] [] [0, 1, 2, 3, 4, 5] rfl rfl rfl rfl rfl 0 rfl rfl rfl (fun _ => rfl) rfl rfl hl.1 (Nat.le_of_ble_eq_true rfl) dX7_readWord_85 ⟨Nat.zero_le _, Nat.zero_le _⟩ (fun r u H locs hw hP hD hS => ?_)
              obtain ⟨rfl, hw⟩ := hw
              have hw_85 : True := hw
              have hP : va_P D vwCl [(k0, .inr (6, [.ref k1, .ref k2, .ref k3, .int (nI tz), .int (nI ta), .int (nI n1), .int (nI n2), .int (nI tv_)])), (k1, .inl (cI, 301, .inl (rI tkk))), (k2, .inl (cI, 301, .inl (rI tkv))), (k3, .inl (cI, 301, .inl (rI tks))), (t0, .inr (5, [.ref t1, .int (nI ty)])), (t1, .inl (cI, 300, .inl (rI bt)))] H := hP
              have hD : va_D A [(k0, .inr (6, [.ref k1, .ref k2, .ref k3, .int (nI tz), .int (nI ta), .int (nI n1), .int (nI n2), .int (nI tv_)])), (k1, .inl (cI, 301, .inl (rI tkk))), (k2, .inl (cI, 301, .inl (rI tkv))), (k3, .inl (cI, 301, .inl (rI tks))), (t0, .inr (5, [.ref t1, .int (nI ty)])), (t1, .inl (cI, 300, .inl (rI bt)))] := hD
              refine lv_if_eq (tgt := 96) hx hb dX7_readWord_88 (by decide) (fun c_88 => ?_) (fun c_88 => ?_)
              ·
                have b_88 : (spB bt n1 (n2 - n1) 3) = false := bb_eq0 c_88
                refine lv_aload_n hx hb dX7_readWord_96 rfl (lv_at hl 0 rfl) ?_
                refine lv_aload_n hx hb dX7_readWord_97 rfl (lv_at hl 1 rfl) ?_
                refine va_ldcS hx hb hown hG.2.2.2.2.1.2.2.2.2.1 dX7_readWord_98 ?_
                refine xcV_i (As := [.ref t0, .ref (gK 4)]) (rest := []) (wc := [(k0, .inr (6, [.ref k1, .ref k2, .ref k3, .int (nI tz), .int (nI ta), .int (nI n1), .int (nI n2), .int (nI tv_)])), (k1, .inl (cI, 301, .inl (rI tkk))), (k2, .inl (cI, 301, .inl (rI tkv))), (k3, .inl (cI, 301, .inl (rI tks))), (t0, .inr (5, [.ref t1, .int (nI ty)])), (t1, .inl (cI, 300, .inl (rI bt)))]) (wr := []) (w3 := fun (u : Unit) => [(k0, .inr (6, [.ref k1, .ref k2, .ref k3, .int (nI tz), .int (nI ta), .int (nI n1), .int (nI n2), .int (nI tv_)])), (k1, .inl (cI, 301, .inl (rI tkk))), (k2, .inl (cI, 301, .inl (rI tkv))), (k3, .inl (cI, 301, .inl (rI tks))), (t0, .inr (5, [.ref t1, .int (nI ty)])), (t1, .inl (cI, 300, .inl (rI bt)))]) ⟨hx, hb, hml, hown, hts⟩ (c_X7_spells l D cI cZ cO H.size gR gD gK gV k0 k1 k2 k3 tz ta tv_ tkk tkv tks n1 n2 t0 t1 ty bt 4 (by first | assumption | omega | rfl) (by first | assumption | omega | rfl) (by first | assumption | omega | rfl) (by first | assumption | omega | rfl) (by first | assumption | omega | rfl)) (cwV 2 hts gX7_readWord_X7_spells rfl rfl rfl (by decide +kernel) ⟨Nat.le_of_ble_eq_true rfl, Nat.le_of_ble_eq_true rfl⟩) (xGdc gR gD gK gV) (xGdc gR gD gK gV) (fun _ _ _ h => h) hG hP hD hK hS hA [0, 1, 2, 3, 4, 5] [] [0, 1, 2, 3, 4, 5] rfl rfl rfl rfl rfl 0 rfl rfl rfl (fun _ => rfl) rfl rfl hl.1 (Nat.le_of_ble_eq_true rfl) dX7_readWord_100 ⟨Nat.zero_le _, Nat.zero_le _⟩ (fun r u H locs hw hP hD hS => ?_)
                obtain ⟨rfl, hw⟩ := hw
                have hw_100 : True := hw
                have hP : va_P D vwCl [(k0, .inr (6, [.ref k1, .ref k2, .ref k3, .int (nI tz), .int (nI ta), .int (nI n1), .int (nI n2), .int (nI tv_)])), (k1, .inl (cI, 301, .inl (rI tkk))), (k2, .inl (cI, 301, .inl (rI tkv))), (k3, .inl (cI, 301, .inl (rI tks))), (t0, .inr (5, [.ref t1, .int (nI ty)])), (t1, .inl (cI, 300, .inl (rI bt)))] H := hP
                have hD : va_D A [(k0, .inr (6, [.ref k1, .ref k2, .ref k3, .int (nI tz), .int (nI ta), .int (nI n1), .int (nI n2), .int (nI tv_)])), (k1, .inl (cI, 301, .inl (rI tkk))), (k2, .inl (cI, 301, .inl (rI tkv))), (k3, .inl (cI, 301, .inl (rI tks))), (t0, .inr (5, [.ref t1, .int (nI ty)])), (t1, .inl (cI, 300, .inl (rI bt)))] := hD
                refine lv_if_eq (tgt := 111) hx hb dX7_readWord_103 (by decide) (fun c_103 => ?_) (fun c_103 => ?_)
                ·
                  have b_103 : (spB bt n1 (n2 - n1) 4) = false := bb_eq0 c_103
                  refine lv_aload_n hx hb dX7_readWord_111 rfl (lv_at hl 0 rfl) ?_
                  refine lv_aload_n hx hb dX7_readWord_112 rfl (lv_at hl 1 rfl) ?_
                  refine va_ldcS hx hb hown hG.2.2.2.2.1.2.2.2.2.2.1 dX7_readWord_113 ?_
                  refine xcV_i (As := [.ref t0, .ref (gK 5)]) (rest := []) (wc := [(k0, .inr (6, [.ref k1, .ref k2, .ref k3, .int (nI tz), .int (nI ta), .int (nI n1), .int (nI n2), .int (nI tv_)])), (k1, .inl (cI, 301, .inl (rI tkk))), (k2, .inl (cI, 301, .inl (rI tkv))), (k3, .inl (cI, 301, .inl (rI tks))), (t0, .inr (5, [.ref t1, .int (nI ty)])), (t1, .inl (cI, 300, .inl (rI bt)))]) (wr := []) (w3 := fun (u : Unit) => [(k0, .inr (6, [.ref k1, .ref k2, .ref k3, .int (nI tz), .int (nI ta), .int (nI n1), .int (nI n2), .int (nI tv_)])), (k1, .inl (cI, 301, .inl (rI tkk))), (k2, .inl (cI, 301, .inl (rI tkv))), (k3, .inl (cI, 301, .inl (rI tks))), (t0, .inr (5, [.ref t1, .int (nI ty)])), (t1, .inl (cI, 300, .inl (rI bt)))]) ⟨hx, hb, hml, hown, hts⟩ (c_X7_spells l D cI cZ cO H.size gR gD gK gV k0 k1 k2 k3 tz ta tv_ tkk tkv tks n1 n2 t0 t1 ty bt 5 (by first | assumption | omega | rfl) (by first | assumption | omega | rfl) (by first | assumption | omega | rfl) (by first | assumption | omega | rfl) (by first | assumption | omega | rfl)) (cwV 2 hts gX7_readWord_X7_spells rfl rfl rfl (by decide +kernel) ⟨Nat.le_of_ble_eq_true rfl, Nat.le_of_ble_eq_true rfl⟩) (xGdc gR gD gK gV) (xGdc gR gD gK gV) (fun _ _ _ h => h) hG hP hD hK hS hA [0, 1, 2, 3, 4, 5] [] [0, 1, 2, 3, 4, 5] rfl rfl rfl rfl rfl 0 rfl rfl rfl (fun _ => rfl) rfl rfl hl.1 (Nat.le_of_ble_eq_true rfl) dX7_readWord_115 ⟨Nat.zero_le _, Nat.zero_le _⟩ (fun r u H locs hw hP hD hS => ?_)
                  obtain ⟨rfl, hw⟩ := hw
                  have hw_115 : True := hw
                  have hP : va_P D vwCl [(k0, .inr (6, [.ref k1, .ref k2, .ref k3, .int (nI tz), .int (nI ta), .int (nI n1), .int (nI n2), .int (nI tv_)])), (k1, .inl (cI, 301, .inl (rI tkk))), (k2, .inl (cI, 301, .inl (rI tkv))), (k3, .inl (cI, 301, .inl (rI tks))), (t0, .inr (5, [.ref t1, .int (nI ty)])), (t1, .inl (cI, 300, .inl (rI bt)))] H := hP
                  have hD : va_D A [(k0, .inr (6, [.ref k1, .ref k2, .ref k3, .int (nI tz), .int (nI ta), .int (nI n1), .int (nI n2), .int (nI tv_)])), (k1, .inl (cI, 301, .inl (rI tkk))), (k2, .inl (cI, 301, .inl (rI tkv))), (k3, .inl (cI, 301, .inl (rI tks))), (t0, .inr (5, [.ref t1, .int (nI ty)])), (t1, .inl (cI, 300, .inl (rI bt)))] := hD
                  refine lv_if_eq (tgt := 126) hx hb dX7_readWord_118 (by decide) (fun c_118 => ?_) (fun c_118 => ?_)
                  ·
                    have b_118 : (spB bt n1 (n2 - n1) 5) = false := bb_eq0 c_118
                    refine lv_aload_n hx hb dX7_readWord_126 rfl (lv_at hl 0 rfl) ?_
                    refine lv_aload_n hx hb dX7_readWord_127 rfl (lv_at hl 1 rfl) ?_
                    refine va_ldcS hx hb hown hG.2.2.2.2.1.2.2.2.2.2.2.1 dX7_readWord_128 ?_
                    refine xcV_i (As := [.ref t0, .ref (gK 6)]) (rest := []) (wc := [(k0, .inr (6, [.ref k1, .ref k2, .ref k3, .int (nI tz), .int (nI ta), .int (nI n1), .int (nI n2), .int (nI tv_)])), (k1, .inl (cI, 301, .inl (rI tkk))), (k2, .inl (cI, 301, .inl (rI tkv))), (k3, .inl (cI, 301, .inl (rI tks))), (t0, .inr (5, [.ref t1, .int (nI ty)])), (t1, .inl (cI, 300, .inl (rI bt)))]) (wr := []) (w3 := fun (u : Unit) => [(k0, .inr (6, [.ref k1, .ref k2, .ref k3, .int (nI tz), .int (nI ta), .int (nI n1), .int (nI n2), .int (nI tv_)])), (k1, .inl (cI, 301, .inl (rI tkk))), (k2, .inl (cI, 301, .inl (rI tkv))), (k3, .inl (cI, 301, .inl (rI tks))), (t0, .inr (5, [.ref t1, .int (nI ty)])), (t1, .inl (cI, 300, .inl (rI bt)))]) ⟨hx, hb, hml, hown, hts⟩ (c_X7_spells l D cI cZ cO H.size gR gD gK gV k0 k1 k2 k3 tz ta tv_ tkk tkv tks n1 n2 t0 t1 ty bt 6 (by first | assumption | omega | rfl) (by first | assumption | omega | rfl) (by first | assumption | omega | rfl) (by first | assumption | omega | rfl) (by first | assumption | omega | rfl)) (cwV 2 hts gX7_readWord_X7_spells rfl rfl rfl (by decide +kernel) ⟨Nat.le_of_ble_eq_true rfl, Nat.le_of_ble_eq_true rfl⟩) (xGdc gR gD gK gV) (xGdc gR gD gK gV) (fun _ _ _ h => h) hG hP hD hK hS hA [0, 1, 2, 3, 4, 5] [] [0, 1, 2, 3, 4, 5] rfl rfl rfl rfl rfl 0 rfl rfl rfl (fun _ => rfl) rfl rfl hl.1 (Nat.le_of_ble_eq_true rfl) dX7_readWord_130 ⟨Nat.zero_le _, Nat.zero_le _⟩ (fun r u H locs hw hP hD hS => ?_)
                    obtain ⟨rfl, hw⟩ := hw
                    have hw_130 : True := hw
                    have hP : va_P D vwCl [(k0, .inr (6, [.ref k1, .ref k2, .ref k3, .int (nI tz), .int (nI ta), .int (nI n1), .int (nI n2), .int (nI tv_)])), (k1, .inl (cI, 301, .inl (rI tkk))), (k2, .inl (cI, 301, .inl (rI tkv))), (k3, .inl (cI, 301, .inl (rI tks))), (t0, .inr (5, [.ref t1, .int (nI ty)])), (t1, .inl (cI, 300, .inl (rI bt)))] H := hP
                    have hD : va_D A [(k0, .inr (6, [.ref k1, .ref k2, .ref k3, .int (nI tz), .int (nI ta), .int (nI n1), .int (nI n2), .int (nI tv_)])), (k1, .inl (cI, 301, .inl (rI tkk))), (k2, .inl (cI, 301, .inl (rI tkv))), (k3, .inl (cI, 301, .inl (rI tks))), (t0, .inr (5, [.ref t1, .int (nI ty)])), (t1, .inl (cI, 300, .inl (rI bt)))] := hD
                    refine lv_if_eq (tgt := 141) hx hb dX7_readWord_133 (by decide) (fun c_133 => ?_) (fun c_133 => ?_)
                    ·
                      have b_133 : (spB bt n1 (n2 - n1) 6) = false := bb_eq0 c_133
                      refine lv_aload_n hx hb dX7_readWord_141 rfl (lv_at hl 0 rfl) ?_
                      refine lv_aload_n hx hb dX7_readWord_142 rfl (lv_at hl 1 rfl) ?_
                      refine va_ldcS hx hb hown hG.2.2.2.2.1.2.2.2.2.2.2.2.1 dX7_readWord_143 ?_
                      refine xcV_i (As := [.ref t0, .ref (gK 7)]) (rest := []) (wc := [(k0, .inr (6, [.ref k1, .ref k2, .ref k3, .int (nI tz), .int (nI ta), .int (nI n1), .int (nI n2), .int (nI tv_)])), (k1, .inl (cI, 301, .inl (rI tkk))), (k2, .inl (cI, 301, .inl (rI tkv))), (k3, .inl (cI, 301, .inl (rI tks))), (t0, .inr (5, [.ref t1, .int (nI ty)])), (t1, .inl (cI, 300, .inl (rI bt)))]) (wr := []) (w3 := fun (u : Unit) => [(k0, .inr (6, [.ref k1, .ref k2, .ref k3, .int (nI tz), .int (nI ta), .int (nI n1), .int (nI n2), .int (nI tv_)])), (k1, .inl (cI, 301, .inl (rI tkk))), (k2, .inl (cI, 301, .inl (rI tkv))), (k3, .inl (cI, 301, .inl (rI tks))), (t0, .inr (5, [.ref t1, .int (nI ty)])), (t1, .inl (cI, 300, .inl (rI bt)))]) ⟨hx, hb, hml, hown, hts⟩ (c_X7_spells l D cI cZ cO H.size gR gD gK gV k0 k1 k2 k3 tz ta tv_ tkk tkv tks n1 n2 t0 t1 ty bt 7 (by first | assumption | omega | rfl) (by first | assumption | omega | rfl) (by first | assumption | omega | rfl) (by first | assumption | omega | rfl) (by first | assumption | omega | rfl)) (cwV 2 hts gX7_readWord_X7_spells rfl rfl rfl (by decide +kernel) ⟨Nat.le_of_ble_eq_true rfl, Nat.le_of_ble_eq_true rfl⟩) (xGdc gR gD gK gV) (xGdc gR gD gK gV) (fun _ _ _ h => h) hG hP hD hK hS hA [0, 1, 2, 3, 4, 5] [] [0, 1, 2, 3, 4, 5] rfl rfl rfl rfl rfl 0 rfl rfl rfl (fun _ => rfl) rfl rfl hl.1 (Nat.le_of_ble_eq_true rfl) dX7_readWord_145 ⟨Nat.zero_le _, Nat.zero_le _⟩ (fun r u H locs hw hP hD hS => ?_)
                      obtain ⟨rfl, hw⟩ := hw
                      have hw_145 : True := hw
                      have hP : va_P D vwCl [(k0, .inr (6, [.ref k1, .ref k2, .ref k3, .int (nI tz), .int (nI ta), .int (nI n1), .int (nI n2), .int (nI tv_)])), (k1, .inl (cI, 301, .inl (rI tkk))), (k2, .inl (cI, 301, .inl (rI tkv))), (k3, .inl (cI, 301, .inl (rI tks))), (t0, .inr (5, [.ref t1, .int (nI ty)])), (t1, .inl (cI, 300, .inl (rI bt)))] H := hP
                      have hD : va_D A [(k0, .inr (6, [.ref k1, .ref k2, .ref k3, .int (nI tz), .int (nI ta), .int (nI n1), .int (nI n2), .int (nI tv_)])), (k1, .inl (cI, 301, .inl (rI tkk))), (k2, .inl (cI, 301, .inl (rI tkv))), (k3, .inl (cI, 301, .inl (rI tks))), (t0, .inr (5, [.ref t1, .int (nI ty)])), (t1, .inl (cI, 300, .inl (rI bt)))] := hD
                      refine lv_if_eq (tgt := 156) hx hb dX7_readWord_148 (by decide) (fun c_148 => ?_) (fun c_148 => ?_)
                      ·
                        have b_148 : (spB bt n1 (n2 - n1) 7) = false := bb_eq0 c_148
                        refine lv_aload_n hx hb dX7_readWord_156 rfl (lv_at hl 0 rfl) ?_
                        refine lv_aload_n hx hb dX7_readWord_157 rfl (lv_at hl 1 rfl) ?_
                        refine va_ldcS hx hb hown hG.2.2.2.2.1.2.2.2.2.2.2.2.2.1 dX7_readWord_158 ?_
                        refine xcV_i (As := [.ref t0, .ref (gK 8)]) (rest := []) (wc := [(k0, .inr (6, [.ref k1, .ref k2, .ref k3, .int (nI tz), .int (nI ta), .int (nI n1), .int (nI n2), .int (nI tv_)])), (k1, .inl (cI, 301, .inl (rI tkk))), (k2, .inl (cI, 301, .inl (rI tkv))), (k3, .inl (cI, 301, .inl (rI tks))), (t0, .inr (5, [.ref t1, .int (nI ty)])), (t1, .inl (cI, 300, .inl (rI bt)))]) (wr := []) (w3 := fun (u : Unit) => [(k0, .inr (6, [.ref k1, .ref k2, .ref k3, .int (nI tz), .int (nI ta), .int (nI n1), .int (nI n2), .int (nI tv_)])), (k1, .inl (cI, 301, .inl (rI tkk))), (k2, .inl (cI, 301, .inl (rI tkv))), (k3, .inl (cI, 301, .inl (rI tks))), (t0, .inr (5, [.ref t1, .int (nI ty)])), (t1, .inl (cI, 300, .inl (rI bt)))]) ⟨hx, hb, hml, hown, hts⟩ (c_X7_spells l D cI cZ cO H.size gR gD gK gV k0 k1 k2 k3 tz ta tv_ tkk tkv tks n1 n2 t0 t1 ty bt 8 (by first | assumption | omega | rfl) (by first | assumption | omega | rfl) (by first | assumption | omega | rfl) (by first | assumption | omega | rfl) (by first | assumption | omega | rfl)) (cwV 2 hts gX7_readWord_X7_spells rfl rfl rfl (by decide +kernel) ⟨Nat.le_of_ble_eq_true rfl, Nat.le_of_ble_eq_true rfl⟩) (xGdc gR gD gK gV) (xGdc gR gD gK gV) (fun _ _ _ h => h) hG hP hD hK hS hA [0, 1, 2, 3, 4, 5] [] [0, 1, 2, 3, 4, 5] rfl rfl rfl rfl rfl 0 rfl rfl rfl (fun _ => rfl) rfl rfl hl.1 (Nat.le_of_ble_eq_true rfl) dX7_readWord_160 ⟨Nat.zero_le _, Nat.zero_le _⟩ (fun r u H locs hw hP hD hS => ?_)
                        obtain ⟨rfl, hw⟩ := hw
                        have hw_160 : True := hw
                        have hP : va_P D vwCl [(k0, .inr (6, [.ref k1, .ref k2, .ref k3, .int (nI tz), .int (nI ta), .int (nI n1), .int (nI n2), .int (nI tv_)])), (k1, .inl (cI, 301, .inl (rI tkk))), (k2, .inl (cI, 301, .inl (rI tkv))), (k3, .inl (cI, 301, .inl (rI tks))), (t0, .inr (5, [.ref t1, .int (nI ty)])), (t1, .inl (cI, 300, .inl (rI bt)))] H := hP
                        have hD : va_D A [(k0, .inr (6, [.ref k1, .ref k2, .ref k3, .int (nI tz), .int (nI ta), .int (nI n1), .int (nI n2), .int (nI tv_)])), (k1, .inl (cI, 301, .inl (rI tkk))), (k2, .inl (cI, 301, .inl (rI tkv))), (k3, .inl (cI, 301, .inl (rI tks))), (t0, .inr (5, [.ref t1, .int (nI ty)])), (t1, .inl (cI, 300, .inl (rI bt)))] := hD
                        refine lv_if_eq (tgt := 171) hx hb dX7_readWord_163 (by decide) (fun c_163 => ?_) (fun c_163 => ?_)
                        ·
                          have b_163 : (spB bt n1 (n2 - n1) 8) = false := bb_eq0 c_163
                          refine lv_aload_n hx hb dX7_readWord_171 rfl (lv_at hl 0 rfl) ?_
                          refine lv_aload_n hx hb dX7_readWord_172 rfl (lv_at hl 1 rfl) ?_
                          refine va_ldcS hx hb hown hG.2.2.2.2.1.2.2.2.2.2.2.2.2.2 dX7_readWord_173 ?_
                          refine xcV_i (As := [.ref t0, .ref (gK 9)]) (rest := []) (wc := [(k0, .inr (6, [.ref k1, .ref k2, .ref k3, .int (nI tz), .int (nI ta), .int (nI n1), .int (nI n2), .int (nI tv_)])), (k1, .inl (cI, 301, .inl (rI tkk))), (k2, .inl (cI, 301, .inl (rI tkv))), (k3, .inl (cI, 301, .inl (rI tks))), (t0, .inr (5, [.ref t1, .int (nI ty)])), (t1, .inl (cI, 300, .inl (rI bt)))]) (wr := []) (w3 := fun (u : Unit) => [(k0, .inr (6, [.ref k1, .ref k2, .ref k3, .int (nI tz), .int (nI ta), .int (nI n1), .int (nI n2), .int (nI tv_)])), (k1, .inl (cI, 301, .inl (rI tkk))), (k2, .inl (cI, 301, .inl (rI tkv))), (k3, .inl (cI, 301, .inl (rI tks))), (t0, .inr (5, [.ref t1, .int (nI ty)])), (t1, .inl (cI, 300, .inl (rI bt)))]) ⟨hx, hb, hml, hown, hts⟩ (c_X7_spells l D cI cZ cO H.size gR gD gK gV k0 k1 k2 k3 tz ta tv_ tkk tkv tks n1 n2 t0 t1 ty bt 9 (by first | assumption | omega | rfl) (by first | assumption | omega | rfl) (by first | assumption | omega | rfl) (by first | assumption | omega | rfl) (by first | assumption | omega | rfl)) (cwV 2 hts gX7_readWord_X7_spells rfl rfl rfl (by decide +kernel) ⟨Nat.le_of_ble_eq_true rfl, Nat.le_of_ble_eq_true rfl⟩) (xGdc gR gD gK gV) (xGdc gR gD gK gV) (fun _ _ _ h => h) hG hP hD hK hS hA [0, 1, 2, 3, 4, 5] [] [0, 1, 2, 3, 4, 5] rfl rfl rfl rfl rfl 0 rfl rfl rfl (fun _ => rfl) rfl rfl hl.1 (Nat.le_of_ble_eq_true rfl) dX7_readWord_175 ⟨Nat.zero_le _, Nat.zero_le _⟩ (fun r u H locs hw hP hD hS => ?_)
                          obtain ⟨rfl, hw⟩ := hw
                          have hw_175 : True := hw
                          have hP : va_P D vwCl [(k0, .inr (6, [.ref k1, .ref k2, .ref k3, .int (nI tz), .int (nI ta), .int (nI n1), .int (nI n2), .int (nI tv_)])), (k1, .inl (cI, 301, .inl (rI tkk))), (k2, .inl (cI, 301, .inl (rI tkv))), (k3, .inl (cI, 301, .inl (rI tks))), (t0, .inr (5, [.ref t1, .int (nI ty)])), (t1, .inl (cI, 300, .inl (rI bt)))] H := hP
                          have hD : va_D A [(k0, .inr (6, [.ref k1, .ref k2, .ref k3, .int (nI tz), .int (nI ta), .int (nI n1), .int (nI n2), .int (nI tv_)])), (k1, .inl (cI, 301, .inl (rI tkk))), (k2, .inl (cI, 301, .inl (rI tkv))), (k3, .inl (cI, 301, .inl (rI tks))), (t0, .inr (5, [.ref t1, .int (nI ty)])), (t1, .inl (cI, 300, .inl (rI bt)))] := hD
                          refine lv_if_eq (tgt := 186) hx hb dX7_readWord_178 (by decide) (fun c_178 => ?_) (fun c_178 => ?_)
                          ·
                            have b_178 : (spB bt n1 (n2 - n1) 9) = false := bb_eq0 c_178
                            refine lv_iconst (v := (1 : Int32)) hx hb dX7_readWord_186 (by decide) ?_
                            exact hret _ (n2) _ _ _ _ (rfl) (⟨by rw [wkF, hle1, if_neg (bfne b_45), if_neg (bfne b_59), if_neg (bfne b_73), if_neg (bfne b_88), if_neg (bfne b_103), if_neg (bfne b_118), if_neg (bfne b_133), if_neg (bfne b_148), if_neg (bfne b_163), if_neg (bfne b_178)]; rfl, hle1.symm⟩) hP hD hS dX7_readWord_187
                          ·
                            have b_178 : (spB bt n1 (n2 - n1) 9) = true := bb_neq0 c_178
                            refine lv_bipush (v := (13 : Int32)) hx hb dX7_readWord_181 (by decide) ?_
                            refine lv_goto (tgt := 187) hx hb dX7_readWord_183 (by decide) ?_
                            exact hret _ (n2) _ _ _ _ (rfl) (⟨by rw [wkF, hle1, if_neg (bfne b_45), if_neg (bfne b_59), if_neg (bfne b_73), if_neg (bfne b_88), if_neg (bfne b_103), if_neg (bfne b_118), if_neg (bfne b_133), if_neg (bfne b_148), if_neg (bfne b_163), if_pos b_178]; rfl, hle1.symm⟩) hP hD hS dX7_readWord_187
                        ·
                          have b_163 : (spB bt n1 (n2 - n1) 8) = true := bb_neq0 c_163
                          refine lv_bipush (v := (12 : Int32)) hx hb dX7_readWord_166 (by decide) ?_
                          refine lv_goto (tgt := 187) hx hb dX7_readWord_168 (by decide) ?_
                          exact hret _ (n2) _ _ _ _ (rfl) (⟨by rw [wkF, hle1, if_neg (bfne b_45), if_neg (bfne b_59), if_neg (bfne b_73), if_neg (bfne b_88), if_neg (bfne b_103), if_neg (bfne b_118), if_neg (bfne b_133), if_neg (bfne b_148), if_pos b_163]; rfl, hle1.symm⟩) hP hD hS dX7_readWord_187
                      ·
                        have b_148 : (spB bt n1 (n2 - n1) 7) = true := bb_neq0 c_148
                        refine lv_bipush (v := (11 : Int32)) hx hb dX7_readWord_151 (by decide) ?_
                        refine lv_goto (tgt := 187) hx hb dX7_readWord_153 (by decide) ?_
                        exact hret _ (n2) _ _ _ _ (rfl) (⟨by rw [wkF, hle1, if_neg (bfne b_45), if_neg (bfne b_59), if_neg (bfne b_73), if_neg (bfne b_88), if_neg (bfne b_103), if_neg (bfne b_118), if_neg (bfne b_133), if_pos b_148]; rfl, hle1.symm⟩) hP hD hS dX7_readWord_187
                    ·
                      have b_133 : (spB bt n1 (n2 - n1) 6) = true := bb_neq0 c_133
                      refine lv_bipush (v := (10 : Int32)) hx hb dX7_readWord_136 (by decide) ?_
                      refine lv_goto (tgt := 187) hx hb dX7_readWord_138 (by decide) ?_
                      exact hret _ (n2) _ _ _ _ (rfl) (⟨by rw [wkF, hle1, if_neg (bfne b_45), if_neg (bfne b_59), if_neg (bfne b_73), if_neg (bfne b_88), if_neg (bfne b_103), if_neg (bfne b_118), if_pos b_133]; rfl, hle1.symm⟩) hP hD hS dX7_readWord_187
                  ·
                    have b_118 : (spB bt n1 (n2 - n1) 5) = true := bb_neq0 c_118
                    refine lv_bipush (v := (9 : Int32)) hx hb dX7_readWord_121 (by decide) ?_
                    refine lv_goto (tgt := 187) hx hb dX7_readWord_123 (by decide) ?_
                    exact hret _ (n2) _ _ _ _ (rfl) (⟨by rw [wkF, hle1, if_neg (bfne b_45), if_neg (bfne b_59), if_neg (bfne b_73), if_neg (bfne b_88), if_neg (bfne b_103), if_pos b_118]; rfl, hle1.symm⟩) hP hD hS dX7_readWord_187
                ·
                  have b_103 : (spB bt n1 (n2 - n1) 4) = true := bb_neq0 c_103
                  refine lv_bipush (v := (8 : Int32)) hx hb dX7_readWord_106 (by decide) ?_
                  refine lv_goto (tgt := 187) hx hb dX7_readWord_108 (by decide) ?_
                  exact hret _ (n2) _ _ _ _ (rfl) (⟨by rw [wkF, hle1, if_neg (bfne b_45), if_neg (bfne b_59), if_neg (bfne b_73), if_neg (bfne b_88), if_pos b_103]; rfl, hle1.symm⟩) hP hD hS dX7_readWord_187
              ·
                have b_88 : (spB bt n1 (n2 - n1) 3) = true := bb_neq0 c_88
                refine lv_bipush (v := (7 : Int32)) hx hb dX7_readWord_91 (by decide) ?_
                refine lv_goto (tgt := 187) hx hb dX7_readWord_93 (by decide) ?_
                exact hret _ (n2) _ _ _ _ (rfl) (⟨by rw [wkF, hle1, if_neg (bfne b_45), if_neg (bfne b_59), if_neg (bfne b_73), if_pos b_88]; rfl, hle1.symm⟩) hP hD hS dX7_readWord_187
            ·
              have b_73 : (spB bt n1 (n2 - n1) 2) = true := bb_neq0 c_73
              refine lv_bipush (v := (6 : Int32)) hx hb dX7_readWord_76 (by decide) ?_
              refine lv_goto (tgt := 187) hx hb dX7_readWord_78 (by decide) ?_
              exact hret _ (n2) _ _ _ _ (rfl) (⟨by rw [wkF, hle1, if_neg (bfne b_45), if_neg (bfne b_59), if_pos b_73]; rfl, hle1.symm⟩) hP hD hS dX7_readWord_187
          ·
            have b_59 : (spB bt n1 (n2 - n1) 1) = true := bb_neq0 c_59
            refine lv_iconst (v := (5 : Int32)) hx hb dX7_readWord_62 (by decide) ?_
            refine lv_goto (tgt := 187) hx hb dX7_readWord_63 (by decide) ?_
            exact hret _ (n2) _ _ _ _ (rfl) (⟨by rw [wkF, hle1, if_neg (bfne b_45), if_pos b_59]; rfl, hle1.symm⟩) hP hD hS dX7_readWord_187
        ·
          have b_45 : (spB bt n1 (n2 - n1) 0) = true := bb_neq0 c_45
          refine lv_iconst (v := (4 : Int32)) hx hb dX7_readWord_48 (by decide) ?_
          refine lv_goto (tgt := 187) hx hb dX7_readWord_49 (by decide) ?_
          exact hret _ (n2) _ _ _ _ (rfl) (⟨by rw [wkF, hle1, if_pos b_45]; rfl, hle1.symm⟩) hP hD hS dX7_readWord_187
      ·
        have n_8 : n2 < ty := Nat.lt_of_not_le (fun q => c_8 ((nI_leI (show ty < 2147483648 by omega) (show n2 < 2147483648 by omega)).2 q))
        refine lv_aload_n hx hb dX7_readWord_11 rfl (lv_at hl 1 rfl) ?_
        refine lv_aload_n hx hb dX7_readWord_12 rfl (lv_at hl 0 rfl) ?_
        refine va_get (D := D) (ci := 6) (v := .int (nI n2)) (C := RX7) (T := TX7) (N := 8) hx hb hts hin_X7 hown hK hP 0 rfl rfl 6 (by decide) w_0 (fun _ h9 => h9) rfl dX7_readWord_13 ?_
        refine xcV_i (As := [.int (nI n2)]) (rest := []) (wc := [(t0, .inr (5, [.ref t1, .int (nI ty)])), (t1, .inl (cI, 300, .inl (rI bt)))]) (wr := [(k0, .inr (6, [.ref k1, .ref k2, .ref k3, .int (nI tz), .int (nI ta), .int (nI n1), .int (nI n2), .int (nI tv_)])), (k1, .inl (cI, 301, .inl (rI tkk))), (k2, .inl (cI, 301, .inl (rI tkv))), (k3, .inl (cI, 301, .inl (rI tks)))]) (w3 := fun (u : Unit) => [(k0, .inr (6, [.ref k1, .ref k2, .ref k3, .int (nI tz), .int (nI ta), .int (nI n1), .int (nI n2), .int (nI tv_)])), (k1, .inl (cI, 301, .inl (rI tkk))), (k2, .inl (cI, 301, .inl (rI tkv))), (k3, .inl (cI, 301, .inl (rI tks))), (t0, .inr (5, [.ref t1, .int (nI ty)])), (t1, .inl (cI, 300, .inl (rI bt)))]) ⟨hx, hb, hml, hown, hts⟩ (c_X6_byteAt l D cI cZ cO H.size t0 t1 ty bt n2 (by first | assumption | omega | rfl) (by omega)) (cwV 1 hts gX7_readWord_X6_byteAt rfl rfl rfl (by decide +kernel) ⟨Nat.le_of_ble_eq_true rfl, Nat.le_of_ble_eq_true rfl⟩) (xGdc gR gD gK gV) xGd0 (fun _ _ _ _ => trivial) hG hP hD hK hS hA [4, 5] [0, 1, 2, 3] [0, 1, 2, 3, 4, 5] rfl rfl rfl rfl rfl 4 rfl rfl rfl (fun _ => rfl) rfl rfl hl.1 (Nat.le_of_ble_eq_true rfl) dX7_readWord_16 ⟨Nat.zero_le _, Nat.zero_le _⟩ (fun r u H locs hw hP hD hS => ?_)
        obtain ⟨rfl, hw⟩ := hw
        have hw_16 : True := hw
        have hP : va_P D vwCl [(k0, .inr (6, [.ref k1, .ref k2, .ref k3, .int (nI tz), .int (nI ta), .int (nI n1), .int (nI n2), .int (nI tv_)])), (k1, .inl (cI, 301, .inl (rI tkk))), (k2, .inl (cI, 301, .inl (rI tkv))), (k3, .inl (cI, 301, .inl (rI tks))), (t0, .inr (5, [.ref t1, .int (nI ty)])), (t1, .inl (cI, 300, .inl (rI bt)))] H := hP
        have hD : va_D A [(k0, .inr (6, [.ref k1, .ref k2, .ref k3, .int (nI tz), .int (nI ta), .int (nI n1), .int (nI n2), .int (nI tv_)])), (k1, .inl (cI, 301, .inl (rI tkk))), (k2, .inl (cI, 301, .inl (rI tkv))), (k3, .inl (cI, 301, .inl (rI tks))), (t0, .inr (5, [.ref t1, .int (nI ty)])), (t1, .inl (cI, 300, .inl (rI bt)))] := hD
        refine xcS_i (As := [.int (if n2 < ty then nI (bt n2) else (-9))]) (rest := []) (wc := []) (wr := [(k0, .inr (6, [.ref k1, .ref k2, .ref k3, .int (nI tz), .int (nI ta), .int (nI n1), .int (nI n2), .int (nI tv_)])), (k1, .inl (cI, 301, .inl (rI tkk))), (k2, .inl (cI, 301, .inl (rI tkv))), (k3, .inl (cI, 301, .inl (rI tks))), (t0, .inr (5, [.ref t1, .int (nI ty)])), (t1, .inl (cI, 300, .inl (rI bt)))]) (w3 := fun (u : Unit) => [(k0, .inr (6, [.ref k1, .ref k2, .ref k3, .int (nI tz), .int (nI ta), .int (nI n1), .int (nI n2), .int (nI tv_)])), (k1, .inl (cI, 301, .inl (rI tkk))), (k2, .inl (cI, 301, .inl (rI tkv))), (k3, .inl (cI, 301, .inl (rI tks))), (t0, .inr (5, [.ref t1, .int (nI ty)])), (t1, .inl (cI, 300, .inl (rI bt)))]) ⟨hx, hb, hml, hown, hts⟩ (c_X7_isLetter l D cI cZ cO H.size gR gD gK gV (if n2 < ty then nI (bt n2) else (-9)) ) (va_cwS 1 hts gX7_readWord_X7_isLetter rfl rfl rfl (by decide +kernel) ⟨Nat.le_of_ble_eq_true rfl, Nat.le_of_ble_eq_true rfl⟩) (xGdc gR gD gK gV) (xGdc gR gD gK gV) (fun _ _ _ h => h) hG hP hD hK hS hA [] [0, 1, 2, 3, 4, 5] [0, 1, 2, 3, 4, 5] rfl rfl rfl rfl rfl rfl (fun _ => rfl) rfl rfl hl.1 (Nat.le_of_ble_eq_true rfl) dX7_readWord_19 ⟨Nat.zero_le _, Nat.zero_le _⟩ (fun r u H locs hw hP hD hS => ?_)
        obtain ⟨rfl, hw⟩ := hw
        have hw_19 : True := hw
        have hP : va_P D vwCl [(k0, .inr (6, [.ref k1, .ref k2, .ref k3, .int (nI tz), .int (nI ta), .int (nI n1), .int (nI n2), .int (nI tv_)])), (k1, .inl (cI, 301, .inl (rI tkk))), (k2, .inl (cI, 301, .inl (rI tkv))), (k3, .inl (cI, 301, .inl (rI tks))), (t0, .inr (5, [.ref t1, .int (nI ty)])), (t1, .inl (cI, 300, .inl (rI bt)))] H := hP
        have hD : va_D A [(k0, .inr (6, [.ref k1, .ref k2, .ref k3, .int (nI tz), .int (nI ta), .int (nI n1), .int (nI n2), .int (nI tv_)])), (k1, .inl (cI, 301, .inl (rI tkk))), (k2, .inl (cI, 301, .inl (rI tkv))), (k3, .inl (cI, 301, .inl (rI tks))), (t0, .inr (5, [.ref t1, .int (nI ty)])), (t1, .inl (cI, 300, .inl (rI bt)))] := hD
        refine lv_topr (x' := bb (ltB bt ty n2)) (congrArg bb (cin_lt hF)) ?_
        refine lv_if_eq (tgt := 38) hx hb dX7_readWord_22 (by decide) (fun c_22 => ?_) (fun c_22 => ?_)
        ·
          have b_22 : (ltB bt ty n2) = false := bb_eq0 c_22
          have hle1 : leE bt ty n1 = n2 := hle.symm.trans (runE_stop (P := ltB bt ty) (by first | exact b_22 | exact decide_eq_false (fun q => absurd q.1 (by omega))) _)
          obtain ⟨h21, h22⟩ := h2
          refine lv_aload_n hx hb dX7_readWord_38 rfl (lv_at hl 0 rfl) ?_
          refine lv_aload_n hx hb dX7_readWord_39 rfl (lv_at hl 1 rfl) ?_
          refine va_ldcS hx hb hown hG.2.2.2.2.1.1 dX7_readWord_40 ?_
          refine xcV_i (As := [.ref t0, .ref (gK 0)]) (rest := []) (wc := [(k0, .inr (6, [.ref k1, .ref k2, .ref k3, .int (nI tz), .int (nI ta), .int (nI n1), .int (nI n2), .int (nI tv_)])), (k1, .inl (cI, 301, .inl (rI tkk))), (k2, .inl (cI, 301, .inl (rI tkv))), (k3, .inl (cI, 301, .inl (rI tks))), (t0, .inr (5, [.ref t1, .int (nI ty)])), (t1, .inl (cI, 300, .inl (rI bt)))]) (wr := []) (w3 := fun (u : Unit) => [(k0, .inr (6, [.ref k1, .ref k2, .ref k3, .int (nI tz), .int (nI ta), .int (nI n1), .int (nI n2), .int (nI tv_)])), (k1, .inl (cI, 301, .inl (rI tkk))), (k2, .inl (cI, 301, .inl (rI tkv))), (k3, .inl (cI, 301, .inl (rI tks))), (t0, .inr (5, [.ref t1, .int (nI ty)])), (t1, .inl (cI, 300, .inl (rI bt)))]) ⟨hx, hb, hml, hown, hts⟩ (c_X7_spells l D cI cZ cO H.size gR gD gK gV k0 k1 k2 k3 tz ta tv_ tkk tkv tks n1 n2 t0 t1 ty bt 0 (by first | assumption | omega | rfl) (by first | assumption | omega | rfl) (by first | assumption | omega | rfl) (by first | assumption | omega | rfl) (by first | assumption | omega | rfl)) (cwV 2 hts gX7_readWord_X7_spells rfl rfl rfl (by decide +kernel) ⟨Nat.le_of_ble_eq_true rfl, Nat.le_of_ble_eq_true rfl⟩) (xGdc gR gD gK gV) (xGdc gR gD gK gV) (fun _ _ _ h => h) hG hP hD hK hS hA [0, 1, 2, 3, 4, 5] [] [0, 1, 2, 3, 4, 5] rfl rfl rfl rfl rfl 0 rfl rfl rfl (fun _ => rfl) rfl rfl hl.1 (Nat.le_of_ble_eq_true rfl) dX7_readWord_42 ⟨Nat.zero_le _, Nat.zero_le _⟩ (fun r u H locs hw hP hD hS => ?_)
          obtain ⟨rfl, hw⟩ := hw
          have hw_42 : True := hw
          have hP : va_P D vwCl [(k0, .inr (6, [.ref k1, .ref k2, .ref k3, .int (nI tz), .int (nI ta), .int (nI n1), .int (nI n2), .int (nI tv_)])), (k1, .inl (cI, 301, .inl (rI tkk))), (k2, .inl (cI, 301, .inl (rI tkv))), (k3, .inl (cI, 301, .inl (rI tks))), (t0, .inr (5, [.ref t1, .int (nI ty)])), (t1, .inl (cI, 300, .inl (rI bt)))] H := hP
          have hD : va_D A [(k0, .inr (6, [.ref k1, .ref k2, .ref k3, .int (nI tz), .int (nI ta), .int (nI n1), .int (nI n2), .int (nI tv_)])), (k1, .inl (cI, 301, .inl (rI tkk))), (k2, .inl (cI, 301, .inl (rI tkv))), (k3, .inl (cI, 301, .inl (rI tks))), (t0, .inr (5, [.ref t1, .int (nI ty)])), (t1, .inl (cI, 300, .inl (rI bt)))] := hD
          refine lv_if_eq (tgt := 52) hx hb dX7_readWord_45 (by decide) (fun c_45 => ?_) (fun c_45 => ?_)
          ·
            have b_45 : (spB bt n1 (n2 - n1) 0) = false := bb_eq0 c_45
            refine lv_aload_n hx hb dX7_readWord_52 rfl (lv_at hl 0 rfl) ?_
            refine lv_aload_n hx hb dX7_readWord_53 rfl (lv_at hl 1 rfl) ?_
            refine va_ldcS hx hb hown hG.2.2.2.2.1.2.1 dX7_readWord_54 ?_
            refine xcV_i (As := [.ref t0, .ref (gK 1)]) (rest := []) (wc := [(k0, .inr (6, [.ref k1, .ref k2, .ref k3, .int (nI tz), .int (nI ta), .int (nI n1), .int (nI n2), .int (nI tv_)])), (k1, .inl (cI, 301, .inl (rI tkk))), (k2, .inl (cI, 301, .inl (rI tkv))), (k3, .inl (cI, 301, .inl (rI tks))), (t0, .inr (5, [.ref t1, .int (nI ty)])), (t1, .inl (cI, 300, .inl (rI bt)))]) (wr := []) (w3 := fun (u : Unit) => [(k0, .inr (6, [.ref k1, .ref k2, .ref k3, .int (nI tz), .int (nI ta), .int (nI n1), .int (nI n2), .int (nI tv_)])), (k1, .inl (cI, 301, .inl (rI tkk))), (k2, .inl (cI, 301, .inl (rI tkv))), (k3, .inl (cI, 301, .inl (rI tks))), (t0, .inr (5, [.ref t1, .int (nI ty)])), (t1, .inl (cI, 300, .inl (rI bt)))]) ⟨hx, hb, hml, hown, hts⟩ (c_X7_spells l D cI cZ cO H.size gR gD gK gV k0 k1 k2 k3 tz ta tv_ tkk tkv tks n1 n2 t0 t1 ty bt 1 (by first | assumption | omega | rfl) (by first | assumption | omega | rfl) (by first | assumption | omega | rfl) (by first | assumption | omega | rfl) (by first | assumption | omega | rfl)) (cwV 2 hts gX7_readWord_X7_spells rfl rfl rfl (by decide +kernel) ⟨Nat.le_of_ble_eq_true rfl, Nat.le_of_ble_eq_true rfl⟩) (xGdc gR gD gK gV) (xGdc gR gD gK gV) (fun _ _ _ h => h) hG hP hD hK hS hA [0, 1, 2, 3, 4, 5] [] [0, 1, 2, 3, 4, 5] rfl rfl rfl rfl rfl 0 rfl rfl rfl (fun _ => rfl) rfl rfl hl.1 (Nat.le_of_ble_eq_true rfl) dX7_readWord_56 ⟨Nat.zero_le _, Nat.zero_le _⟩ (fun r u H locs hw hP hD hS => ?_)
            obtain ⟨rfl, hw⟩ := hw
            have hw_56 : True := hw
            have hP : va_P D vwCl [(k0, .inr (6, [.ref k1, .ref k2, .ref k3, .int (nI tz), .int (nI ta), .int (nI n1), .int (nI n2), .int (nI tv_)])), (k1, .inl (cI, 301, .inl (rI tkk))), (k2, .inl (cI, 301, .inl (rI tkv))), (k3, .inl (cI, 301, .inl (rI tks))), (t0, .inr (5, [.ref t1, .int (nI ty)])), (t1, .inl (cI, 300, .inl (rI bt)))] H := hP
            have hD : va_D A [(k0, .inr (6, [.ref k1, .ref k2, .ref k3, .int (nI tz), .int (nI ta), .int (nI n1), .int (nI n2), .int (nI tv_)])), (k1, .inl (cI, 301, .inl (rI tkk))), (k2, .inl (cI, 301, .inl (rI tkv))), (k3, .inl (cI, 301, .inl (rI tks))), (t0, .inr (5, [.ref t1, .int (nI ty)])), (t1, .inl (cI, 300, .inl (rI bt)))] := hD
            refine lv_if_eq (tgt := 66) hx hb dX7_readWord_59 (by decide) (fun c_59 => ?_) (fun c_59 => ?_)
            ·
              have b_59 : (spB bt n1 (n2 - n1) 1) = false := bb_eq0 c_59
              refine lv_aload_n hx hb dX7_readWord_66 rfl (lv_at hl 0 rfl) ?_
              refine lv_aload_n hx hb dX7_readWord_67 rfl (lv_at hl 1 rfl) ?_
              refine va_ldcS hx hb hown hG.2.2.2.2.1.2.2.1 dX7_readWord_68 ?_
              refine xcV_i (As := [.ref t0, .ref (gK 2)]) (rest := []) (wc := [(k0, .inr (6, [.ref k1, .ref k2, .ref k3, .int (nI tz), .int (nI ta), .int (nI n1), .int (nI n2), .int (nI tv_)])), (k1, .inl (cI, 301, .inl (rI tkk))), (k2, .inl (cI, 301, .inl (rI tkv))), (k3, .inl (cI, 301, .inl (rI tks))), (t0, .inr (5, [.ref t1, .int (nI ty)])), (t1, .inl (cI, 300, .inl (rI bt)))]) (wr := []) (w3 := fun (u : Unit) => [(k0, .inr (6, [.ref k1, .ref k2, .ref k3, .int (nI tz), .int (nI ta), .int (nI n1), .int (nI n2), .int (nI tv_)])), (k1, .inl (cI, 301, .inl (rI tkk))), (k2, .inl (cI, 301, .inl (rI tkv))), (k3, .inl (cI, 301, .inl (rI tks))), (t0, .inr (5, [.ref t1, .int (nI ty)])), (t1, .inl (cI, 300, .inl (rI bt)))]) ⟨hx, hb, hml, hown, hts⟩ (c_X7_spells l D cI cZ cO H.size gR gD gK gV k0 k1 k2 k3 tz ta tv_ tkk tkv tks n1 n2 t0 t1 ty bt 2 (by first | assumption | omega | rfl) (by first | assumption | omega | rfl) (by first | assumption | omega | rfl) (by first | assumption | omega | rfl) (by first | assumption | omega | rfl)) (cwV 2 hts gX7_readWord_X7_spells rfl rfl rfl (by decide +kernel) ⟨Nat.le_of_ble_eq_true rfl, Nat.le_of_ble_eq_true rfl⟩) (xGdc gR gD gK gV) (xGdc gR gD gK gV) (fun _ _ _ h => h) hG hP hD hK hS hA [0, 1, 2, 3, 4, 5] [] [0, 1, 2, 3, 4, 5] rfl rfl rfl rfl rfl 0 rfl rfl rfl (fun _ => rfl) rfl rfl hl.1 (Nat.le_of_ble_eq_true rfl) dX7_readWord_70 ⟨Nat.zero_le _, Nat.zero_le _⟩ (fun r u H locs hw hP hD hS => ?_)
              obtain ⟨rfl, hw⟩ := hw
              have hw_70 : True := hw
              have hP : va_P D vwCl [(k0, .inr (6, [.ref k1, .ref k2, .ref k3, .int (nI tz), .int (nI ta), .int (nI n1), .int (nI n2), .int (nI tv_)])), (k1, .inl (cI, 301, .inl (rI tkk))), (k2, .inl (cI, 301, .inl (rI tkv))), (k3, .inl (cI, 301, .inl (rI tks))), (t0, .inr (5, [.ref t1, .int (nI ty)])), (t1, .inl (cI, 300, .inl (rI bt)))] H := hP
              have hD : va_D A [(k0, .inr (6, [.ref k1, .ref k2, .ref k3, .int (nI tz), .int (nI ta), .int (nI n1), .int (nI n2), .int (nI tv_)])), (k1, .inl (cI, 301, .inl (rI tkk))), (k2, .inl (cI, 301, .inl (rI tkv))), (k3, .inl (cI, 301, .inl (rI tks))), (t0, .inr (5, [.ref t1, .int (nI ty)])), (t1, .inl (cI, 300, .inl (rI bt)))] := hD
              refine lv_if_eq (tgt := 81) hx hb dX7_readWord_73 (by decide) (fun c_73 => ?_) (fun c_73 => ?_)
              ·
                have b_73 : (spB bt n1 (n2 - n1) 2) = false := bb_eq0 c_73
                refine lv_aload_n hx hb dX7_readWord_81 rfl (lv_at hl 0 rfl) ?_
                refine lv_aload_n hx hb dX7_readWord_82 rfl (lv_at hl 1 rfl) ?_
                refine va_ldcS hx hb hown hG.2.2.2.2.1.2.2.2.1 dX7_readWord_83 ?_
                refine xcV_i (As := [.ref t0, .ref (gK 3)]) (rest := []) (wc := [(k0, .inr (6, [.ref k1, .ref k2, .ref k3, .int (nI tz), .int (nI ta), .int (nI n1), .int (nI n2), .int (nI tv_)])), (k1, .inl (cI, 301, .inl (rI tkk))), (k2, .inl (cI, 301, .inl (rI tkv))), (k3, .inl (cI, 301, .inl (rI tks))), (t0, .inr (5, [.ref t1, .int (nI ty)])), (t1, .inl (cI, 300, .inl (rI bt)))]) (wr := []) (w3 := fun (u : Unit) => [(k0, .inr (6, [.ref k1, .ref k2, .ref k3, .int (nI tz), .int (nI ta), .int (nI n1), .int (nI n2), .int (nI tv_)])), (k1, .inl (cI, 301, .inl (rI tkk))), (k2, .inl (cI, 301, .inl (rI tkv))), (k3, .inl (cI, 301, .inl (rI tks))), (t0, .inr (5, [.ref t1, .int (nI ty)])), (t1, .inl (cI, 300, .inl (rI bt)))]) ⟨hx, hb, hml, hown, hts⟩ (c_X7_spells l D cI cZ cO H.size gR gD gK gV k0 k1 k2 k3 tz ta tv_ tkk tkv tks n1 n2 t0 t1 ty bt 3 (by first | assumption | omega | rfl) (by first | assumption | omega | rfl) (by first | assumption | omega | rfl) (by first | assumption | omega | rfl) (by first | assumption | omega | rfl)) (cwV 2 hts gX7_readWord_X7_spells rfl rfl rfl (by decide +kernel) ⟨Nat.le_of_ble_eq_true rfl, Nat.le_of_ble_eq_true rfl⟩) (xGdc gR gD gK gV) (xGdc gR gD gK gV) (fun _ _ _ h => h) hG hP hD hK hS hA [0, 1, 2, 3, 4, 5] [] [0, 1, 2, 3, 4, 5] rfl rfl rfl rfl rfl 0 rfl rfl rfl (fun _ => rfl) rfl rfl hl.1 (Nat.le_of_ble_eq_true rfl) dX7_readWord_85 ⟨Nat.zero_le _, Nat.zero_le _⟩ (fun r u H locs hw hP hD hS => ?_)
                obtain ⟨rfl, hw⟩ := hw
                have hw_85 : True := hw
                have hP : va_P D vwCl [(k0, .inr (6, [.ref k1, .ref k2, .ref k3, .int (nI tz), .int (nI ta), .int (nI n1), .int (nI n2), .int (nI tv_)])), (k1, .inl (cI, 301, .inl (rI tkk))), (k2, .inl (cI, 301, .inl (rI tkv))), (k3, .inl (cI, 301, .inl (rI tks))), (t0, .inr (5, [.ref t1, .int (nI ty)])), (t1, .inl (cI, 300, .inl (rI bt)))] H := hP
                have hD : va_D A [(k0, .inr (6, [.ref k1, .ref k2, .ref k3, .int (nI tz), .int (nI ta), .int (nI n1), .int (nI n2), .int (nI tv_)])), (k1, .inl (cI, 301, .inl (rI tkk))), (k2, .inl (cI, 301, .inl (rI tkv))), (k3, .inl (cI, 301, .inl (rI tks))), (t0, .inr (5, [.ref t1, .int (nI ty)])), (t1, .inl (cI, 300, .inl (rI bt)))] := hD
                refine lv_if_eq (tgt := 96) hx hb dX7_readWord_88 (by decide) (fun c_88 => ?_) (fun c_88 => ?_)
                ·
                  have b_88 : (spB bt n1 (n2 - n1) 3) = false := bb_eq0 c_88
                  refine lv_aload_n hx hb dX7_readWord_96 rfl (lv_at hl 0 rfl) ?_
                  refine lv_aload_n hx hb dX7_readWord_97 rfl (lv_at hl 1 rfl) ?_
                  refine va_ldcS hx hb hown hG.2.2.2.2.1.2.2.2.2.1 dX7_readWord_98 ?_
                  refine xcV_i (As := [.ref t0, .ref (gK 4)]) (rest := []) (wc := [(k0, .inr (6, [.ref k1, .ref k2, .ref k3, .int (nI tz), .int (nI ta), .int (nI n1), .int (nI n2), .int (nI tv_)])), (k1, .inl (cI, 301, .inl (rI tkk))), (k2, .inl (cI, 301, .inl (rI tkv))), (k3, .inl (cI, 301, .inl (rI tks))), (t0, .inr (5, [.ref t1, .int (nI ty)])), (t1, .inl (cI, 300, .inl (rI bt)))]) (wr := []) (w3 := fun (u : Unit) => [(k0, .inr (6, [.ref k1, .ref k2, .ref k3, .int (nI tz), .int (nI ta), .int (nI n1), .int (nI n2), .int (nI tv_)])), (k1, .inl (cI, 301, .inl (rI tkk))), (k2, .inl (cI, 301, .inl (rI tkv))), (k3, .inl (cI, 301, .inl (rI tks))), (t0, .inr (5, [.ref t1, .int (nI ty)])), (t1, .inl (cI, 300, .inl (rI bt)))]) ⟨hx, hb, hml, hown, hts⟩ (c_X7_spells l D cI cZ cO H.size gR gD gK gV k0 k1 k2 k3 tz ta tv_ tkk tkv tks n1 n2 t0 t1 ty bt 4 (by first | assumption | omega | rfl) (by first | assumption | omega | rfl) (by first | assumption | omega | rfl) (by first | assumption | omega | rfl) (by first | assumption | omega | rfl)) (cwV 2 hts gX7_readWord_X7_spells rfl rfl rfl (by decide +kernel) ⟨Nat.le_of_ble_eq_true rfl, Nat.le_of_ble_eq_true rfl⟩) (xGdc gR gD gK gV) (xGdc gR gD gK gV) (fun _ _ _ h => h) hG hP hD hK hS hA [0, 1, 2, 3, 4, 5] [] [0, 1, 2, 3, 4, 5] rfl rfl rfl rfl rfl 0 rfl rfl rfl (fun _ => rfl) rfl rfl hl.1 (Nat.le_of_ble_eq_true rfl) dX7_readWord_100 ⟨Nat.zero_le _, Nat.zero_le _⟩ (fun r u H locs hw hP hD hS => ?_)
                  obtain ⟨rfl, hw⟩ := hw
                  have hw_100 : True := hw
                  have hP : va_P D vwCl [(k0, .inr (6, [.ref k1, .ref k2, .ref k3, .int (nI tz), .int (nI ta), .int (nI n1), .int (nI n2), .int (nI tv_)])), (k1, .inl (cI, 301, .inl (rI tkk))), (k2, .inl (cI, 301, .inl (rI tkv))), (k3, .inl (cI, 301, .inl (rI tks))), (t0, .inr (5, [.ref t1, .int (nI ty)])), (t1, .inl (cI, 300, .inl (rI bt)))] H := hP
                  have hD : va_D A [(k0, .inr (6, [.ref k1, .ref k2, .ref k3, .int (nI tz), .int (nI ta), .int (nI n1), .int (nI n2), .int (nI tv_)])), (k1, .inl (cI, 301, .inl (rI tkk))), (k2, .inl (cI, 301, .inl (rI tkv))), (k3, .inl (cI, 301, .inl (rI tks))), (t0, .inr (5, [.ref t1, .int (nI ty)])), (t1, .inl (cI, 300, .inl (rI bt)))] := hD
                  refine lv_if_eq (tgt := 111) hx hb dX7_readWord_103 (by decide) (fun c_103 => ?_) (fun c_103 => ?_)
                  ·
                    have b_103 : (spB bt n1 (n2 - n1) 4) = false := bb_eq0 c_103
                    refine lv_aload_n hx hb dX7_readWord_111 rfl (lv_at hl 0 rfl) ?_
                    refine lv_aload_n hx hb dX7_readWord_112 rfl (lv_at hl 1 rfl) ?_
                    refine va_ldcS hx hb hown hG.2.2.2.2.1.2.2.2.2.2.1 dX7_readWord_113 ?_
                    refine xcV_i (As := [.ref t0, .ref (gK 5)]) (rest := []) (wc := [(k0, .inr (6, [.ref k1, .ref k2, .ref k3, .int (nI tz), .int (nI ta), .int (nI n1), .int (nI n2), .int (nI tv_)])), (k1, .inl (cI, 301, .inl (rI tkk))), (k2, .inl (cI, 301, .inl (rI tkv))), (k3, .inl (cI, 301, .inl (rI tks))), (t0, .inr (5, [.ref t1, .int (nI ty)])), (t1, .inl (cI, 300, .inl (rI bt)))]) (wr := []) (w3 := fun (u : Unit) => [(k0, .inr (6, [.ref k1, .ref k2, .ref k3, .int (nI tz), .int (nI ta), .int (nI n1), .int (nI n2), .int (nI tv_)])), (k1, .inl (cI, 301, .inl (rI tkk))), (k2, .inl (cI, 301, .inl (rI tkv))), (k3, .inl (cI, 301, .inl (rI tks))), (t0, .inr (5, [.ref t1, .int (nI ty)])), (t1, .inl (cI, 300, .inl (rI bt)))]) ⟨hx, hb, hml, hown, hts⟩ (c_X7_spells l D cI cZ cO H.size gR gD gK gV k0 k1 k2 k3 tz ta tv_ tkk tkv tks n1 n2 t0 t1 ty bt 5 (by first | assumption | omega | rfl) (by first | assumption | omega | rfl) (by first | assumption | omega | rfl) (by first | assumption | omega | rfl) (by first | assumption | omega | rfl)) (cwV 2 hts gX7_readWord_X7_spells rfl rfl rfl (by decide +kernel) ⟨Nat.le_of_ble_eq_true rfl, Nat.le_of_ble_eq_true rfl⟩) (xGdc gR gD gK gV) (xGdc gR gD gK gV) (fun _ _ _ h => h) hG hP hD hK hS hA [0, 1, 2, 3, 4, 5] [] [0, 1, 2, 3, 4, 5] rfl rfl rfl rfl rfl 0 rfl rfl rfl (fun _ => rfl) rfl rfl hl.1 (Nat.le_of_ble_eq_true rfl) dX7_readWord_115 ⟨Nat.zero_le _, Nat.zero_le _⟩ (fun r u H locs hw hP hD hS => ?_)
                    obtain ⟨rfl, hw⟩ := hw
                    have hw_115 : True := hw
                    have hP : va_P D vwCl [(k0, .inr (6, [.ref k1, .ref k2, .ref k3, .int (nI tz), .int (nI ta), .int (nI n1), .int (nI n2), .int (nI tv_)])), (k1, .inl (cI, 301, .inl (rI tkk))), (k2, .inl (cI, 301, .inl (rI tkv))), (k3, .inl (cI, 301, .inl (rI tks))), (t0, .inr (5, [.ref t1, .int (nI ty)])), (t1, .inl (cI, 300, .inl (rI bt)))] H := hP
                    have hD : va_D A [(k0, .inr (6, [.ref k1, .ref k2, .ref k3, .int (nI tz), .int (nI ta), .int (nI n1), .int (nI n2), .int (nI tv_)])), (k1, .inl (cI, 301, .inl (rI tkk))), (k2, .inl (cI, 301, .inl (rI tkv))), (k3, .inl (cI, 301, .inl (rI tks))), (t0, .inr (5, [.ref t1, .int (nI ty)])), (t1, .inl (cI, 300, .inl (rI bt)))] := hD
                    refine lv_if_eq (tgt := 126) hx hb dX7_readWord_118 (by decide) (fun c_118 => ?_) (fun c_118 => ?_)
                    ·
                      have b_118 : (spB bt n1 (n2 - n1) 5) = false := bb_eq0 c_118
                      refine lv_aload_n hx hb dX7_readWord_126 rfl (lv_at hl 0 rfl) ?_
                      refine lv_aload_n hx hb dX7_readWord_127 rfl (lv_at hl 1 rfl) ?_
                      refine va_ldcS hx hb hown hG.2.2.2.2.1.2.2.2.2.2.2.1 dX7_readWord_128 ?_
                      refine xcV_i (As := [.ref t0, .ref (gK 6)]) (rest := []) (wc := [(k0, .inr (6, [.ref k1, .ref k2, .ref k3, .int (nI tz), .int (nI ta), .int (nI n1), .int (nI n2), .int (nI tv_)])), (k1, .inl (cI, 301, .inl (rI tkk))), (k2, .inl (cI, 301, .inl (rI tkv))), (k3, .inl (cI, 301, .inl (rI tks))), (t0, .inr (5, [.ref t1, .int (nI ty)])), (t1, .inl (cI, 300, .inl (rI bt)))]) (wr := []) (w3 := fun (u : Unit) => [(k0, .inr (6, [.ref k1, .ref k2, .ref k3, .int (nI tz), .int (nI ta), .int (nI n1), .int (nI n2), .int (nI tv_)])), (k1, .inl (cI, 301, .inl (rI tkk))), (k2, .inl (cI, 301, .inl (rI tkv))), (k3, .inl (cI, 301, .inl (rI tks))), (t0, .inr (5, [.ref t1, .int (nI ty)])), (t1, .inl (cI, 300, .inl (rI bt)))]) ⟨hx, hb, hml, hown, hts⟩ (c_X7_spells l D cI cZ cO H.size gR gD gK gV k0 k1 k2 k3 tz ta tv_ tkk tkv tks n1 n2 t0 t1 ty bt 6 (by first | assumption | omega | rfl) (by first | assumption | omega | rfl) (by first | assumption | omega | rfl) (by first | assumption | omega | rfl) (by first | assumption | omega | rfl)) (cwV 2 hts gX7_readWord_X7_spells rfl rfl rfl (by decide +kernel) ⟨Nat.le_of_ble_eq_true rfl, Nat.le_of_ble_eq_true rfl⟩) (xGdc gR gD gK gV) (xGdc gR gD gK gV) (fun _ _ _ h => h) hG hP hD hK hS hA [0, 1, 2, 3, 4, 5] [] [0, 1, 2, 3, 4, 5] rfl rfl rfl rfl rfl 0 rfl rfl rfl (fun _ => rfl) rfl rfl hl.1 (Nat.le_of_ble_eq_true rfl) dX7_readWord_130 ⟨Nat.zero_le _, Nat.zero_le _⟩ (fun r u H locs hw hP hD hS => ?_)
                      obtain ⟨rfl, hw⟩ := hw
                      have hw_130 : True := hw
                      have hP : va_P D vwCl [(k0, .inr (6, [.ref k1, .ref k2, .ref k3, .int (nI tz), .int (nI ta), .int (nI n1), .int (nI n2), .int (nI tv_)])), (k1, .inl (cI, 301, .inl (rI tkk))), (k2, .inl (cI, 301, .inl (rI tkv))), (k3, .inl (cI, 301, .inl (rI tks))), (t0, .inr (5, [.ref t1, .int (nI ty)])), (t1, .inl (cI, 300, .inl (rI bt)))] H := hP
                      have hD : va_D A [(k0, .inr (6, [.ref k1, .ref k2, .ref k3, .int (nI tz), .int (nI ta), .int (nI n1), .int (nI n2), .int (nI tv_)])), (k1, .inl (cI, 301, .inl (rI tkk))), (k2, .inl (cI, 301, .inl (rI tkv))), (k3, .inl (cI, 301, .inl (rI tks))), (t0, .inr (5, [.ref t1, .int (nI ty)])), (t1, .inl (cI, 300, .inl (rI bt)))] := hD
                      refine lv_if_eq (tgt := 141) hx hb dX7_readWord_133 (by decide) (fun c_133 => ?_) (fun c_133 => ?_)
                      ·
                        have b_133 : (spB bt n1 (n2 - n1) 6) = false := bb_eq0 c_133
                        refine lv_aload_n hx hb dX7_readWord_141 rfl (lv_at hl 0 rfl) ?_
                        refine lv_aload_n hx hb dX7_readWord_142 rfl (lv_at hl 1 rfl) ?_
                        refine va_ldcS hx hb hown hG.2.2.2.2.1.2.2.2.2.2.2.2.1 dX7_readWord_143 ?_
                        refine xcV_i (As := [.ref t0, .ref (gK 7)]) (rest := []) (wc := [(k0, .inr (6, [.ref k1, .ref k2, .ref k3, .int (nI tz), .int (nI ta), .int (nI n1), .int (nI n2), .int (nI tv_)])), (k1, .inl (cI, 301, .inl (rI tkk))), (k2, .inl (cI, 301, .inl (rI tkv))), (k3, .inl (cI, 301, .inl (rI tks))), (t0, .inr (5, [.ref t1, .int (nI ty)])), (t1, .inl (cI, 300, .inl (rI bt)))]) (wr := []) (w3 := fun (u : Unit) => [(k0, .inr (6, [.ref k1, .ref k2, .ref k3, .int (nI tz), .int (nI ta), .int (nI n1), .int (nI n2), .int (nI tv_)])), (k1, .inl (cI, 301, .inl (rI tkk))), (k2, .inl (cI, 301, .inl (rI tkv))), (k3, .inl (cI, 301, .inl (rI tks))), (t0, .inr (5, [.ref t1, .int (nI ty)])), (t1, .inl (cI, 300, .inl (rI bt)))]) ⟨hx, hb, hml, hown, hts⟩ (c_X7_spells l D cI cZ cO H.size gR gD gK gV k0 k1 k2 k3 tz ta tv_ tkk tkv tks n1 n2 t0 t1 ty bt 7 (by first | assumption | omega | rfl) (by first | assumption | omega | rfl) (by first | assumption | omega | rfl) (by first | assumption | omega | rfl) (by first | assumption | omega | rfl)) (cwV 2 hts gX7_readWord_X7_spells rfl rfl rfl (by decide +kernel) ⟨Nat.le_of_ble_eq_true rfl, Nat.le_of_ble_eq_true rfl⟩) (xGdc gR gD gK gV) (xGdc gR gD gK gV) (fun _ _ _ h => h) hG hP hD hK hS hA [0, 1, 2, 3, 4, 5] [] [0, 1, 2, 3, 4, 5] rfl rfl rfl rfl rfl 0 rfl rfl rfl (fun _ => rfl) rfl rfl hl.1 (Nat.le_of_ble_eq_true rfl) dX7_readWord_145 ⟨Nat.zero_le _, Nat.zero_le _⟩ (fun r u H locs hw hP hD hS => ?_)
                        obtain ⟨rfl, hw⟩ := hw
                        have hw_145 : True := hw
                        have hP : va_P D vwCl [(k0, .inr (6, [.ref k1, .ref k2, .ref k3, .int (nI tz), .int (nI ta), .int (nI n1), .int (nI n2), .int (nI tv_)])), (k1, .inl (cI, 301, .inl (rI tkk))), (k2, .inl (cI, 301, .inl (rI tkv))), (k3, .inl (cI, 301, .inl (rI tks))), (t0, .inr (5, [.ref t1, .int (nI ty)])), (t1, .inl (cI, 300, .inl (rI bt)))] H := hP
                        have hD : va_D A [(k0, .inr (6, [.ref k1, .ref k2, .ref k3, .int (nI tz), .int (nI ta), .int (nI n1), .int (nI n2), .int (nI tv_)])), (k1, .inl (cI, 301, .inl (rI tkk))), (k2, .inl (cI, 301, .inl (rI tkv))), (k3, .inl (cI, 301, .inl (rI tks))), (t0, .inr (5, [.ref t1, .int (nI ty)])), (t1, .inl (cI, 300, .inl (rI bt)))] := hD
                        refine lv_if_eq (tgt := 156) hx hb dX7_readWord_148 (by decide) (fun c_148 => ?_) (fun c_148 => ?_)
                        ·
                          have b_148 : (spB bt n1 (n2 - n1) 7) = false := bb_eq0 c_148
                          refine lv_aload_n hx hb dX7_readWord_156 rfl (lv_at hl 0 rfl) ?_
                          refine lv_aload_n hx hb dX7_readWord_157 rfl (lv_at hl 1 rfl) ?_
                          refine va_ldcS hx hb hown hG.2.2.2.2.1.2.2.2.2.2.2.2.2.1 dX7_readWord_158 ?_
                          refine xcV_i (As := [.ref t0, .ref (gK 8)]) (rest := []) (wc := [(k0, .inr (6, [.ref k1, .ref k2, .ref k3, .int (nI tz), .int (nI ta), .int (nI n1), .int (nI n2), .int (nI tv_)])), (k1, .inl (cI, 301, .inl (rI tkk))), (k2, .inl (cI, 301, .inl (rI tkv))), (k3, .inl (cI, 301, .inl (rI tks))), (t0, .inr (5, [.ref t1, .int (nI ty)])), (t1, .inl (cI, 300, .inl (rI bt)))]) (wr := []) (w3 := fun (u : Unit) => [(k0, .inr (6, [.ref k1, .ref k2, .ref k3, .int (nI tz), .int (nI ta), .int (nI n1), .int (nI n2), .int (nI tv_)])), (k1, .inl (cI, 301, .inl (rI tkk))), (k2, .inl (cI, 301, .inl (rI tkv))), (k3, .inl (cI, 301, .inl (rI tks))), (t0, .inr (5, [.ref t1, .int (nI ty)])), (t1, .inl (cI, 300, .inl (rI bt)))]) ⟨hx, hb, hml, hown, hts⟩ (c_X7_spells l D cI cZ cO H.size gR gD gK gV k0 k1 k2 k3 tz ta tv_ tkk tkv tks n1 n2 t0 t1 ty bt 8 (by first | assumption | omega | rfl) (by first | assumption | omega | rfl) (by first | assumption | omega | rfl) (by first | assumption | omega | rfl) (by first | assumption | omega | rfl)) (cwV 2 hts gX7_readWord_X7_spells rfl rfl rfl (by decide +kernel) ⟨Nat.le_of_ble_eq_true rfl, Nat.le_of_ble_eq_true rfl⟩) (xGdc gR gD gK gV) (xGdc gR gD gK gV) (fun _ _ _ h => h) hG hP hD hK hS hA [0, 1, 2, 3, 4, 5] [] [0, 1, 2, 3, 4, 5] rfl rfl rfl rfl rfl 0 rfl rfl rfl (fun _ => rfl) rfl rfl hl.1 (Nat.le_of_ble_eq_true rfl) dX7_readWord_160 ⟨Nat.zero_le _, Nat.zero_le _⟩ (fun r u H locs hw hP hD hS => ?_)
                          obtain ⟨rfl, hw⟩ := hw
                          have hw_160 : True := hw
                          have hP : va_P D vwCl [(k0, .inr (6, [.ref k1, .ref k2, .ref k3, .int (nI tz), .int (nI ta), .int (nI n1), .int (nI n2), .int (nI tv_)])), (k1, .inl (cI, 301, .inl (rI tkk))), (k2, .inl (cI, 301, .inl (rI tkv))), (k3, .inl (cI, 301, .inl (rI tks))), (t0, .inr (5, [.ref t1, .int (nI ty)])), (t1, .inl (cI, 300, .inl (rI bt)))] H := hP
                          have hD : va_D A [(k0, .inr (6, [.ref k1, .ref k2, .ref k3, .int (nI tz), .int (nI ta), .int (nI n1), .int (nI n2), .int (nI tv_)])), (k1, .inl (cI, 301, .inl (rI tkk))), (k2, .inl (cI, 301, .inl (rI tkv))), (k3, .inl (cI, 301, .inl (rI tks))), (t0, .inr (5, [.ref t1, .int (nI ty)])), (t1, .inl (cI, 300, .inl (rI bt)))] := hD
                          refine lv_if_eq (tgt := 171) hx hb dX7_readWord_163 (by decide) (fun c_163 => ?_) (fun c_163 => ?_)
                          ·
                            have b_163 : (spB bt n1 (n2 - n1) 8) = false := bb_eq0 c_163
                            refine lv_aload_n hx hb dX7_readWord_171 rfl (lv_at hl 0 rfl) ?_
                            refine lv_aload_n hx hb dX7_readWord_172 rfl (lv_at hl 1 rfl) ?_
                            refine va_ldcS hx hb hown hG.2.2.2.2.1.2.2.2.2.2.2.2.2.2 dX7_readWord_173 ?_
                            refine xcV_i (As := [.ref t0, .ref (gK 9)]) (rest := []) (wc := [(k0, .inr (6, [.ref k1, .ref k2, .ref k3, .int (nI tz), .int (nI ta), .int (nI n1), .int (nI n2), .int (nI tv_)])), (k1, .inl (cI, 301, .inl (rI tkk))), (k2, .inl (cI, 301, .inl (rI tkv))), (k3, .inl (cI, 301, .inl (rI tks))), (t0, .inr (5, [.ref t1, .int (nI ty)])), (t1, .inl (cI, 300, .inl (rI bt)))]) (wr := []) (w3 := fun (u : Unit) => [(k0, .inr (6, [.ref k1, .ref k2, .ref k3, .int (nI tz), .int (nI ta), .int (nI n1), .int (nI n2), .int (nI tv_)])), (k1, .inl (cI, 301, .inl (rI tkk))), (k2, .inl (cI, 301, .inl (rI tkv))), (k3, .inl (cI, 301, .inl (rI tks))), (t0, .inr (5, [.ref t1, .int (nI ty)])), (t1, .inl (cI, 300, .inl (rI bt)))]) ⟨hx, hb, hml, hown, hts⟩ (c_X7_spells l D cI cZ cO H.size gR gD gK gV k0 k1 k2 k3 tz ta tv_ tkk tkv tks n1 n2 t0 t1 ty bt 9 (by first | assumption | omega | rfl) (by first | assumption | omega | rfl) (by first | assumption | omega | rfl) (by first | assumption | omega | rfl) (by first | assumption | omega | rfl)) (cwV 2 hts gX7_readWord_X7_spells rfl rfl rfl (by decide +kernel) ⟨Nat.le_of_ble_eq_true rfl, Nat.le_of_ble_eq_true rfl⟩) (xGdc gR gD gK gV) (xGdc gR gD gK gV) (fun _ _ _ h => h) hG hP hD hK hS hA [0, 1, 2, 3, 4, 5] [] [0, 1, 2, 3, 4, 5] rfl rfl rfl rfl rfl 0 rfl rfl rfl (fun _ => rfl) rfl rfl hl.1 (Nat.le_of_ble_eq_true rfl) dX7_readWord_175 ⟨Nat.zero_le _, Nat.zero_le _⟩ (fun r u H locs hw hP hD hS => ?_)
                            obtain ⟨rfl, hw⟩ := hw
                            have hw_175 : True := hw
                            have hP : va_P D vwCl [(k0, .inr (6, [.ref k1, .ref k2, .ref k3, .int (nI tz), .int (nI ta), .int (nI n1), .int (nI n2), .int (nI tv_)])), (k1, .inl (cI, 301, .inl (rI tkk))), (k2, .inl (cI, 301, .inl (rI tkv))), (k3, .inl (cI, 301, .inl (rI tks))), (t0, .inr (5, [.ref t1, .int (nI ty)])), (t1, .inl (cI, 300, .inl (rI bt)))] H := hP
                            have hD : va_D A [(k0, .inr (6, [.ref k1, .ref k2, .ref k3, .int (nI tz), .int (nI ta), .int (nI n1), .int (nI n2), .int (nI tv_)])), (k1, .inl (cI, 301, .inl (rI tkk))), (k2, .inl (cI, 301, .inl (rI tkv))), (k3, .inl (cI, 301, .inl (rI tks))), (t0, .inr (5, [.ref t1, .int (nI ty)])), (t1, .inl (cI, 300, .inl (rI bt)))] := hD
                            refine lv_if_eq (tgt := 186) hx hb dX7_readWord_178 (by decide) (fun c_178 => ?_) (fun c_178 => ?_)
                            ·
                              have b_178 : (spB bt n1 (n2 - n1) 9) = false := bb_eq0 c_178
                              refine lv_iconst (v := (1 : Int32)) hx hb dX7_readWord_186 (by decide) ?_
                              exact hret _ (n2) _ _ _ _ (rfl) (⟨by rw [wkF, hle1, if_neg (bfne b_45), if_neg (bfne b_59), if_neg (bfne b_73), if_neg (bfne b_88), if_neg (bfne b_103), if_neg (bfne b_118), if_neg (bfne b_133), if_neg (bfne b_148), if_neg (bfne b_163), if_neg (bfne b_178)]; rfl, hle1.symm⟩) hP hD hS dX7_readWord_187
                            ·
                              have b_178 : (spB bt n1 (n2 - n1) 9) = true := bb_neq0 c_178
                              refine lv_bipush (v := (13 : Int32)) hx hb dX7_readWord_181 (by decide) ?_
                              refine lv_goto (tgt := 187) hx hb dX7_readWord_183 (by decide) ?_
                              exact hret _ (n2) _ _ _ _ (rfl) (⟨by rw [wkF, hle1, if_neg (bfne b_45), if_neg (bfne b_59), if_neg (bfne b_73), if_neg (bfne b_88), if_neg (bfne b_103), if_neg (bfne b_118), if_neg (bfne b_133), if_neg (bfne b_148), if_neg (bfne b_163), if_pos b_178]; rfl, hle1.symm⟩) hP hD hS dX7_readWord_187
                          ·
                            have b_163 : (spB bt n1 (n2 - n1) 8) = true := bb_neq0 c_163
                            refine lv_bipush (v := (12 : Int32)) hx hb dX7_readWord_166 (by decide) ?_
                            refine lv_goto (tgt := 187) hx hb dX7_readWord_168 (by decide) ?_
                            exact hret _ (n2) _ _ _ _ (rfl) (⟨by rw [wkF, hle1, if_neg (bfne b_45), if_neg (bfne b_59), if_neg (bfne b_73), if_neg (bfne b_88), if_neg (bfne b_103), if_neg (bfne b_118), if_neg (bfne b_133), if_neg (bfne b_148), if_pos b_163]; rfl, hle1.symm⟩) hP hD hS dX7_readWord_187
                        ·
                          have b_148 : (spB bt n1 (n2 - n1) 7) = true := bb_neq0 c_148
                          refine lv_bipush (v := (11 : Int32)) hx hb dX7_readWord_151 (by decide) ?_
                          refine lv_goto (tgt := 187) hx hb dX7_readWord_153 (by decide) ?_
                          exact hret _ (n2) _ _ _ _ (rfl) (⟨by rw [wkF, hle1, if_neg (bfne b_45), if_neg (bfne b_59), if_neg (bfne b_73), if_neg (bfne b_88), if_neg (bfne b_103), if_neg (bfne b_118), if_neg (bfne b_133), if_pos b_148]; rfl, hle1.symm⟩) hP hD hS dX7_readWord_187
                      ·
                        have b_133 : (spB bt n1 (n2 - n1) 6) = true := bb_neq0 c_133
                        refine lv_bipush (v := (10 : Int32)) hx hb dX7_readWord_136 (by decide) ?_
                        refine lv_goto (tgt := 187) hx hb dX7_readWord_138 (by decide) ?_
                        exact hret _ (n2) _ _ _ _ (rfl) (⟨by rw [wkF, hle1, if_neg (bfne b_45), if_neg (bfne b_59), if_neg (bfne b_73), if_neg (bfne b_88), if_neg (bfne b_103), if_neg (bfne b_118), if_pos b_133]; rfl, hle1.symm⟩) hP hD hS dX7_readWord_187
                    ·
                      have b_118 : (spB bt n1 (n2 - n1) 5) = true := bb_neq0 c_118
                      refine lv_bipush (v := (9 : Int32)) hx hb dX7_readWord_121 (by decide) ?_
                      refine lv_goto (tgt := 187) hx hb dX7_readWord_123 (by decide) ?_
                      exact hret _ (n2) _ _ _ _ (rfl) (⟨by rw [wkF, hle1, if_neg (bfne b_45), if_neg (bfne b_59), if_neg (bfne b_73), if_neg (bfne b_88), if_neg (bfne b_103), if_pos b_118]; rfl, hle1.symm⟩) hP hD hS dX7_readWord_187
                  ·
                    have b_103 : (spB bt n1 (n2 - n1) 4) = true := bb_neq0 c_103
                    refine lv_bipush (v := (8 : Int32)) hx hb dX7_readWord_106 (by decide) ?_
                    refine lv_goto (tgt := 187) hx hb dX7_readWord_108 (by decide) ?_
                    exact hret _ (n2) _ _ _ _ (rfl) (⟨by rw [wkF, hle1, if_neg (bfne b_45), if_neg (bfne b_59), if_neg (bfne b_73), if_neg (bfne b_88), if_pos b_103]; rfl, hle1.symm⟩) hP hD hS dX7_readWord_187
                ·
                  have b_88 : (spB bt n1 (n2 - n1) 3) = true := bb_neq0 c_88
                  refine lv_bipush (v := (7 : Int32)) hx hb dX7_readWord_91 (by decide) ?_
                  refine lv_goto (tgt := 187) hx hb dX7_readWord_93 (by decide) ?_
                  exact hret _ (n2) _ _ _ _ (rfl) (⟨by rw [wkF, hle1, if_neg (bfne b_45), if_neg (bfne b_59), if_neg (bfne b_73), if_pos b_88]; rfl, hle1.symm⟩) hP hD hS dX7_readWord_187
              ·
                have b_73 : (spB bt n1 (n2 - n1) 2) = true := bb_neq0 c_73
                refine lv_bipush (v := (6 : Int32)) hx hb dX7_readWord_76 (by decide) ?_
                refine lv_goto (tgt := 187) hx hb dX7_readWord_78 (by decide) ?_
                exact hret _ (n2) _ _ _ _ (rfl) (⟨by rw [wkF, hle1, if_neg (bfne b_45), if_neg (bfne b_59), if_pos b_73]; rfl, hle1.symm⟩) hP hD hS dX7_readWord_187
            ·
              have b_59 : (spB bt n1 (n2 - n1) 1) = true := bb_neq0 c_59
              refine lv_iconst (v := (5 : Int32)) hx hb dX7_readWord_62 (by decide) ?_
              refine lv_goto (tgt := 187) hx hb dX7_readWord_63 (by decide) ?_
              exact hret _ (n2) _ _ _ _ (rfl) (⟨by rw [wkF, hle1, if_neg (bfne b_45), if_pos b_59]; rfl, hle1.symm⟩) hP hD hS dX7_readWord_187
          ·
            have b_45 : (spB bt n1 (n2 - n1) 0) = true := bb_neq0 c_45
            refine lv_iconst (v := (4 : Int32)) hx hb dX7_readWord_48 (by decide) ?_
            refine lv_goto (tgt := 187) hx hb dX7_readWord_49 (by decide) ?_
            exact hret _ (n2) _ _ _ _ (rfl) (⟨by rw [wkF, hle1, if_pos b_45]; rfl, hle1.symm⟩) hP hD hS dX7_readWord_187
        ·
          have b_22 : (ltB bt ty n2) = true := bb_neq0 c_22
          have hd2 := of_decide_eq_true b_22
          refine lv_aload_n hx hb dX7_readWord_25 rfl (lv_at hl 0 rfl) ?_
          refine lv_dup hx hb dX7_readWord_26 rfl ?_
          refine va_get (D := D) (ci := 6) (v := .int (nI n2)) (C := RX7) (T := TX7) (N := 8) hx hb hts hin_X7 hown hK hP 0 rfl rfl 6 (by decide) w_0 (fun _ h9 => h9) rfl dX7_readWord_27 ?_
          refine lv_iconst (v := (1 : Int32)) hx hb dX7_readWord_30 (by decide) ?_
          refine lv_iadd hx hb dX7_readWord_31 ?_
          refine lv_topr (x' := nI (n2 + 1)) (nI_add n2 1) ?_
          refine va_put (D := D) (ci := 6) (v := .int (nI (n2 + 1))) (ty := .int) (C := RX7) (T := TX7) (N := 8) hx hb hts hin_X7 tyX7 tyX7_ok nmX7 hown hK hP hD hS 0 rfl rfl 6 (by decide) w_0 (fun _ h9 => h9) rfl (by decide +kernel) rfl rfl (Nat.le_of_ble_eq_true rfl) dX7_readWord_32 (fun H locs hP hD hS => ?_)
          have hP : va_P D vwCl [(k0, .inr (6, [.ref k1, .ref k2, .ref k3, .int (nI tz), .int (nI ta), .int (nI n1), .int (nI (n2 + 1)), .int (nI tv_)])), (k1, .inl (cI, 301, .inl (rI tkk))), (k2, .inl (cI, 301, .inl (rI tkv))), (k3, .inl (cI, 301, .inl (rI tks))), (t0, .inr (5, [.ref t1, .int (nI ty)])), (t1, .inl (cI, 300, .inl (rI bt)))] H := hP
          have hD : va_D A [(k0, .inr (6, [.ref k1, .ref k2, .ref k3, .int (nI tz), .int (nI ta), .int (nI n1), .int (nI (n2 + 1)), .int (nI tv_)])), (k1, .inl (cI, 301, .inl (rI tkk))), (k2, .inl (cI, 301, .inl (rI tkv))), (k3, .inl (cI, 301, .inl (rI tks))), (t0, .inr (5, [.ref t1, .int (nI ty)])), (t1, .inl (cI, 300, .inl (rI bt)))] := hD
          refine lv_goto (tgt := 0) hx hb dX7_readWord_35 (by decide) ?_
          exact ih_0 (n2 + 1) (by omega) ((runE_go (P := ltB bt ty) b_22 hd2.1).symm.trans hle) (by omega) _ _ hP hD hS _ (lv_sub hl [0, 1] rfl)
  exact L_0 (Nat.succ (ty - n1)) n1 (⟨Nat.le_refl _, by omega⟩) (rfl) (Nat.lt_succ_self _) _ _ hP hD hS _ (lv_sub hl [0, 1] rfl)
