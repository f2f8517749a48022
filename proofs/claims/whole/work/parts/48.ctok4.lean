set_option maxHeartbeats 4000000 in
set_option maxRecDepth 100000 in
theorem c_X7_readOne (l : Launch) (D : va_G) (cI cZ cO : ClassId) (sz : Nat) (gR : Nat) (gD : Nat) (gK : Nat → Nat) (gV : Nat → Nat) (k0 : Nat) (k1 : Nat) (k2 : Nat) (k3 : Nat) (tz : Nat) (ta : Nat) (ts_ : Nat) (tkk : Nat → Nat) (tkv : Nat → Nat) (tks : Nat → Nat) (nx : Nat) (t0 : Nat) (t1 : Nat) (ty : Nat) (bt : Nat → Nat) (hty : ty ≤ 300) (hF : fOK bt ty) (h1x : nx ≤ ty) : xMi l yX7_readOne wsX7_readOne (6) (129) D (TY cI cZ cO) (xGc gR gD gK gV) [.ref k0, .ref t0] [(k0, .inr (6, [.ref k1, .ref k2, .ref k3, .int (nI tz), .int (nI ta), .int (nI ts_), .int (nI nx), .int (nI 0)])), (k1, .inl (cI, 301, .inl (rI tkk))), (k2, .inl (cI, 301, .inl (rI tkv))), (k3, .inl (cI, 301, .inl (rI tks))), (t0, .inr (5, [.ref t1, .int (nI ty)])), (t1, .inl (cI, 300, .inl (rI bt)))] sz (fun (rv_ : Int32) (u : Nat × Nat × Nat) => rv_ = (nI (ckN bt ty (skN bt ty nx))) ∧ ((u.1) = skN bt ty nx ∧ (u.2.1) = tkE bt ty (skN bt ty nx) ∧ (u.2.2) = cvN bt ty (skN bt ty nx))) (fun (u : Nat × Nat × Nat) => [(k0, .inr (6, [.ref k1, .ref k2, .ref k3, .int (nI tz), .int (nI ta), .int (nI (u.1)), .int (nI (u.2.1)), .int (nI (u.2.2))])), (k1, .inl (cI, 301, .inl (rI tkk))), (k2, .inl (cI, 301, .inl (rI tkv))), (k3, .inl (cI, 301, .inl (rI tks))), (t0, .inr (5, [.ref t1, .int (nI ty)])), (t1, .inl (cI, 300, .inl (rI bt)))]) := by
  refine xMi.of (cc := cX7_readOne) (maxL := 3) (by decide +kernel) rfl (Nat.le_of_ble_eq_true rfl) ?_
  intro p e s m below meth c A Q H hx hb hml hown hts hA hP hD hK hS hG hret ls hl
  have hown : s.vm.findClass RX7 = some m.cls := hown
  have hP : va_P D vwCl [(k0, .inr (6, [.ref k1, .ref k2, .ref k3, .int (nI tz), .int (nI ta), .int (nI ts_), .int (nI nx), .int (nI 0)])), (k1, .inl (cI, 301, .inl (rI tkk))), (k2, .inl (cI, 301, .inl (rI tkv))), (k3, .inl (cI, 301, .inl (rI tks))), (t0, .inr (5, [.ref t1, .int (nI ty)])), (t1, .inl (cI, 300, .inl (rI bt)))] H := hP
  have hD : va_D A [(k0, .inr (6, [.ref k1, .ref k2, .ref k3, .int (nI tz), .int (nI ta), .int (nI ts_), .int (nI nx), .int (nI 0)])), (k1, .inl (cI, 301, .inl (rI tkk))), (k2, .inl (cI, 301, .inl (rI tkv))), (k3, .inl (cI, 301, .inl (rI tks))), (t0, .inr (5, [.ref t1, .int (nI ty)])), (t1, .inl (cI, 300, .inl (rI bt)))] := hD
  have hl : lv_has ls 3 [(0, .ref k0), (1, .ref t0)] := hl
  have w_0 := hts (.fieldLink RX7 28 "UnlikeRoofs$Tokens" "next" "I") (List.mem_of_getElem? (i := 1) (by rfl))
  have w_1 := hts (.fieldLink RX7 38 "UnlikeRoofs$Tokens" "start" "I") (List.mem_of_getElem? (i := 2) (by rfl))
  have wn_0 : (Cond.fieldLinkNest RX7 45 "UnlikeRoofs$Text" "length" "I" "UnlikeRoofs").before ([.ref k0, .ref t0] : List Value).toArray s = true := va_Nw.use rfl (hG.1 (.fieldLinkNest RX7 45 "UnlikeRoofs$Text" "length" "I" "UnlikeRoofs") (List.mem_of_getElem? (i := 1) (by rfl)))
  have hin_X6 : ∀ w ∈ wsX60, w ∈ wsX7_readOne := fun _ h => List.mem_cons_of_mem _ (List.mem_append_right _ h)
  have hin_X7 : ∀ w ∈ wsX70, w ∈ wsX7_readOne := fun _ h => List.mem_cons_of_mem _ (List.mem_append_left _ (List.mem_append_right _ h))
  have _h0 : True := trivial
  have L_0 : ∀ (fuel : Nat) (n1 : Nat), (n1 ≤ ty) → (skN bt ty n1 = skN bt ty nx) → (ty - n1) < fuel → ∀ (H : Heap) (locs : List Loc), va_P D vwCl [(k0, .inr (6, [.ref k1, .ref k2, .ref k3, .int (nI tz), .int (nI ta), .int (nI ts_), .int (nI n1), .int (nI 0)])), (k1, .inl (cI, 301, .inl (rI tkk))), (k2, .inl (cI, 301, .inl (rI tkv))), (k3, .inl (cI, 301, .inl (rI tks))), (t0, .inr (5, [.ref t1, .int (nI ty)])), (t1, .inl (cI, 300, .inl (rI bt)))] H → va_D A [(k0, .inr (6, [.ref k1, .ref k2, .ref k3, .int (nI tz), .int (nI ta), .int (nI ts_), .int (nI n1), .int (nI 0)])), (k1, .inl (cI, 301, .inl (rI tkk))), (k2, .inl (cI, 301, .inl (rI tkv))), (k3, .inl (cI, 301, .inl (rI tks))), (t0, .inr (5, [.ref t1, .int (nI ty)])), (t1, .inl (cI, 300, .inl (rI bt)))] → va_S A s.heap H locs → ∀ ls : Array Slot, lv_has ls 3 [(0, .ref k0), (1, .ref t0)] → W p l e (xRm 6 129) s m ([.ref k0, .ref t0] : List Value).toArray below meth c H locs 0 0 Q (F0 m 0 ls []) := by
    intro fuel
    induction fuel with
    | zero =>
      intro n1 h1 hsk hm
      exact absurd hm (Nat.not_lt_zero _)
    | succ fuel ih_0 =>
      intro n1 h1 hsk hm_0 H locs hP hD hS ls hl
      refine lv_aload_n hx hb dX7_readOne_0 rfl (lv_at hl 0 rfl) ?_
      refine va_get (D := D) (ci := 6) (v := .int (nI n1)) (C := RX7) (T := TX7) (N := 8) hx hb hts hin_X7 hown hK hP 0 rfl rfl 6 (by decide) w_0 (fun _ h9 => h9) rfl dX7_readOne_1 ?_
      refine lv_aload_n hx hb dX7_readOne_4 rfl (lv_at hl 1 rfl) ?_
      refine va_getN (D := D) (ci := 5) (v := .int (nI ty)) (C := RX6) (T := TX6) (N := 2) hx hb hts hin_X6 hown hK hP 4 rfl rfl 1 (by decide) wn_0 (fun _ h9 => h9) rfl dX7_readOne_5 ?_
      refine lv_icmp_ge (tgt := 37) hx hb dX7_readOne_8 (by decide) (fun c_8 => ?_) (fun c_8 => ?_)
      ·
        have n_8 : ty ≤ n1 := (nI_leI (show ty < 2147483648 by omega) (show n1 < 2147483648 by omega)).1 c_8
        have hsk1 : skN bt ty nx = n1 := hsk.symm.trans (runE_stop (P := whB bt ty) (by first | exact decide_eq_false (fun q => n_21 q.2) | exact decide_eq_false (fun q => absurd q.1 (by omega))) _)
        refine lv_aload_n hx hb dX7_readOne_37 rfl (lv_at hl 0 rfl) ?_
        refine lv_aload_n hx hb dX7_readOne_38 rfl (lv_at hl 0 rfl) ?_
        refine va_get (D := D) (ci := 6) (v := .int (nI n1)) (C := RX7) (T := TX7) (N := 8) hx hb hts hin_X7 hown hK hP 0 rfl rfl 6 (by decide) w_0 (fun _ h9 => h9) rfl dX7_readOne_39 ?_
        refine va_put (D := D) (ci := 6) (v := .int (nI n1)) (ty := .int) (C := RX7) (T := TX7) (N := 8) hx hb hts hin_X7 tyX7 tyX7_ok nmX7 hown hK hP hD hS 0 rfl rfl 5 (by decide) w_1 (fun _ h9 => h9) rfl (by decide +kernel) rfl rfl (Nat.le_of_ble_eq_true rfl) dX7_readOne_42 (fun H locs hP hD hS => ?_)
        have hP : va_P D vwCl [(k0, .inr (6, [.ref k1, .ref k2, .ref k3, .int (nI tz), .int (nI ta), .int (nI n1), .int (nI n1), .int (nI 0)])), (k1, .inl (cI, 301, .inl (rI tkk))), (k2, .inl (cI, 301, .inl (rI tkv))), (k3, .inl (cI, 301, .inl (rI tks))), (t0, .inr (5, [.ref t1, .int (nI ty)])), (t1, .inl (cI, 300, .inl (rI bt)))] H := hP
        have hD : va_D A [(k0, .inr (6, [.ref k1, .ref k2, .ref k3, .int (nI tz), .int (nI ta), .int (nI n1), .int (nI n1), .int (nI 0)])), (k1, .inl (cI, 301, .inl (rI tkk))), (k2, .inl (cI, 301, .inl (rI tkv))), (k3, .inl (cI, 301, .inl (rI tks))), (t0, .inr (5, [.ref t1, .int (nI ty)])), (t1, .inl (cI, 300, .inl (rI bt)))] := hD
        refine lv_aload_n hx hb dX7_readOne_45 rfl (lv_at hl 1 rfl) ?_
        refine lv_aload_n hx hb dX7_readOne_46 rfl (lv_at hl 0 rfl) ?_
        refine va_get (D := D) (ci := 6) (v := .int (nI n1)) (C := RX7) (T := TX7) (N := 8) hx hb hts hin_X7 hown hK hP 0 rfl rfl 5 (by decide) w_1 (fun _ h9 => h9) rfl dX7_readOne_47 ?_
        refine xcV_i (As := [.int (nI n1)]) (rest := []) (wc := [(t0, .inr (5, [.ref t1, .int (nI ty)])), (t1, .inl (cI, 300, .inl (rI bt)))]) (wr := [(k0, .inr (6, [.ref k1, .ref k2, .ref k3, .int (nI tz), .int (nI ta), .int (nI n1), .int (nI n1), .int (nI 0)])), (k1, .inl (cI, 301, .inl (rI tkk))), (k2, .inl (cI, 301, .inl (rI tkv))), (k3, .inl (cI, 301, .inl (rI tks)))]) (w3 := fun (u : Unit) => [(k0, .inr (6, [.ref k1, .ref k2, .ref k3, .int (nI tz), .int (nI ta), .int (nI n1), .int (nI n1), .int (nI 0)])), (k1, .inl (cI, 301, .inl (rI tkk))), (k2, .inl (cI, 301, .inl (rI tkv))), (k3, .inl (cI, 301, .inl (rI tks))), (t0, .inr (5, [.ref t1, .int (nI ty)])), (t1, .inl (cI, 300, .inl (rI bt)))]) ⟨hx, hb, hml, hown, hts⟩ (c_X6_byteAt l D cI cZ cO H.size t0 t1 ty bt n1 (by first | assumption | omega | rfl) (by omega)) (cwV 1 hts gX7_readOne_X6_byteAt rfl rfl rfl (by decide +kernel) ⟨Nat.le_of_ble_eq_true rfl, Nat.le_of_ble_eq_true rfl⟩) (xGdc gR gD gK gV) xGd0 (fun _ _ _ _ => trivial) hG hP hD hK hS hA [4, 5] [0, 1, 2, 3] [0, 1, 2, 3, 4, 5] rfl rfl rfl rfl rfl 4 rfl rfl rfl (fun _ => rfl) rfl rfl hl.1 (Nat.le_of_ble_eq_true rfl) dX7_readOne_50 ⟨Nat.zero_le _, Nat.zero_le _⟩ (fun r u H locs hw hP hD hS => ?_)
        obtain ⟨rfl, hw⟩ := hw
        have hw_50 : True := hw
        have hP : va_P D vwCl [(k0, .inr (6, [.ref k1, .ref k2, .ref k3, .int (nI tz), .int (nI ta), .int (nI n1), .int (nI n1), .int (nI 0)])), (k1, .inl (cI, 301, .inl (rI tkk))), (k2, .inl (cI, 301, .inl (rI tkv))), (k3, .inl (cI, 301, .inl (rI tks))), (t0, .inr (5, [.ref t1, .int (nI ty)])), (t1, .inl (cI, 300, .inl (rI bt)))] H := hP
        have hD : va_D A [(k0, .inr (6, [.ref k1, .ref k2, .ref k3, .int (nI tz), .int (nI ta), .int (nI n1), .int (nI n1), .int (nI 0)])), (k1, .inl (cI, 301, .inl (rI tkk))), (k2, .inl (cI, 301, .inl (rI tkv))), (k3, .inl (cI, 301, .inl (rI tks))), (t0, .inr (5, [.ref t1, .int (nI ty)])), (t1, .inl (cI, 300, .inl (rI bt)))] := hD
        refine lv_istore_n (lv' := [(2, .int (if n1 < ty then nI (bt n1) else (-9))), (0, .ref k0), (1, .ref t0)]) hx hb dX7_readOne_53 rfl hl (by decide) rfl (fun ls hl => ?_)
        refine lv_iload_n hx hb dX7_readOne_54 rfl (lv_at hl 0 rfl) ?_
        refine lv_bipush (v := (-9 : Int32)) hx hb dX7_readOne_55 (by decide) ?_
        refine lv_icmp_ne (tgt := 62) hx hb dX7_readOne_57 (by decide) (fun c_57 => ?_) (fun c_57 => ?_)
        ·
          have hin : n1 < ty := Nat.lt_of_not_le (fun q => c_57 ((cA_9 hF).2 q))
          have hb2 := hF n1 hin
          refine lv_iload_n hx hb dX7_readOne_62 rfl (lv_at hl 0 rfl) ?_
          refine xcS_i (As := [.int (if n1 < ty then nI (bt n1) else (-9))]) (rest := []) (wc := []) (wr := [(k0, .inr (6, [.ref k1, .ref k2, .ref k3, .int (nI tz), .int (nI ta), .int (nI n1), .int (nI n1), .int (nI 0)])), (k1, .inl (cI, 301, .inl (rI tkk))), (k2, .inl (cI, 301, .inl (rI tkv))), (k3, .inl (cI, 301, .inl (rI tks))), (t0, .inr (5, [.ref t1, .int (nI ty)])), (t1, .inl (cI, 300, .inl (rI bt)))]) (w3 := fun (u : Unit) => [(k0, .inr (6, [.ref k1, .ref k2, .ref k3, .int (nI tz), .int (nI ta), .int (nI n1), .int (nI n1), .int (nI 0)])), (k1, .inl (cI, 301, .inl (rI tkk))), (k2, .inl (cI, 301, .inl (rI tkv))), (k3, .inl (cI, 301, .inl (rI tks))), (t0, .inr (5, [.ref t1, .int (nI ty)])), (t1, .inl (cI, 300, .inl (rI bt)))]) ⟨hx, hb, hml, hown, hts⟩ (c_X7_isLetter l D cI cZ cO H.size gR gD gK gV (if n1 < ty then nI (bt n1) else (-9)) ) (va_cwS 1 hts gX7_readOne_X7_isLetter rfl rfl rfl (by decide +kernel) ⟨Nat.le_of_ble_eq_true rfl, Nat.le_of_ble_eq_true rfl⟩) (xGdc gR gD gK gV) (xGdc gR gD gK gV) (fun _ _ _ h => h) hG hP hD hK hS hA [] [0, 1, 2, 3, 4, 5] [0, 1, 2, 3, 4, 5] rfl rfl rfl rfl rfl rfl (fun _ => rfl) rfl rfl hl.1 (Nat.le_of_ble_eq_true rfl) dX7_readOne_63 ⟨Nat.zero_le _, Nat.zero_le _⟩ (fun r u H locs hw hP hD hS => ?_)
          obtain ⟨rfl, hw⟩ := hw
          have hw_63 : True := hw
          have hP : va_P D vwCl [(k0, .inr (6, [.ref k1, .ref k2, .ref k3, .int (nI tz), .int (nI ta), .int (nI n1), .int (nI n1), .int (nI 0)])), (k1, .inl (cI, 301, .inl (rI tkk))), (k2, .inl (cI, 301, .inl (rI tkv))), (k3, .inl (cI, 301, .inl (rI tks))), (t0, .inr (5, [.ref t1, .int (nI ty)])), (t1, .inl (cI, 300, .inl (rI bt)))] H := hP
          have hD : va_D A [(k0, .inr (6, [.ref k1, .ref k2, .ref k3, .int (nI tz), .int (nI ta), .int (nI n1), .int (nI n1), .int (nI 0)])), (k1, .inl (cI, 301, .inl (rI tkk))), (k2, .inl (cI, 301, .inl (rI tkv))), (k3, .inl (cI, 301, .inl (rI tks))), (t0, .inr (5, [.ref t1, .int (nI ty)])), (t1, .inl (cI, 300, .inl (rI bt)))] := hD
          refine lv_topr (x' := bb (ltB bt ty n1)) (congrArg bb (cin_lt hF)) ?_
          refine lv_if_eq (tgt := 75) hx hb dX7_readOne_66 (by decide) (fun c_66 => ?_) (fun c_66 => ?_)
          ·
            have b_66 : (ltB bt ty n1) = false := bb_eq0 c_66
            refine lv_iload_n hx hb dX7_readOne_75 rfl (lv_at hl 0 rfl) ?_
            refine xcS_i (As := [.int (if n1 < ty then nI (bt n1) else (-9))]) (rest := []) (wc := []) (wr := [(k0, .inr (6, [.ref k1, .ref k2, .ref k3, .int (nI tz), .int (nI ta), .int (nI n1), .int (nI n1), .int (nI 0)])), (k1, .inl (cI, 301, .inl (rI tkk))), (k2, .inl (cI, 301, .inl (rI tkv))), (k3, .inl (cI, 301, .inl (rI tks))), (t0, .inr (5, [.ref t1, .int (nI ty)])), (t1, .inl (cI, 300, .inl (rI bt)))]) (w3 := fun (u : Unit) => [(k0, .inr (6, [.ref k1, .ref k2, .ref k3, .int (nI tz), .int (nI ta), .int (nI n1), .int (nI n1), .int (nI 0)])), (k1, .inl (cI, 301, .inl (rI tkk))), (k2, .inl (cI, 301, .inl (rI tkv))), (k3, .inl (cI, 301, .inl (rI tks))), (t0, .inr (5, [.ref t1, .int (nI ty)])), (t1, .inl (cI, 300, .inl (rI bt)))]) ⟨hx, hb, hml, hown, hts⟩ (c_X7_isDigit l D cI cZ cO H.size gR gD gK gV (if n1 < ty then nI (bt n1) else (-9)) ) (va_cwS 1 hts gX7_readOne_X7_isDigit rfl rfl rfl (by decide +kernel) ⟨Nat.le_of_ble_eq_true rfl, Nat.le_of_ble_eq_true rfl⟩) (xGdc gR gD gK gV) (xGdc gR gD gK gV) (fun _ _ _ h => h) hG hP hD hK hS hA [] [0, 1, 2, 3, 4, 5] [0, 1, 2, 3, 4, 5] rfl rfl rfl rfl rfl rfl (fun _ => rfl) rfl rfl hl.1 (Nat.le_of_ble_eq_true rfl) dX7_readOne_76 ⟨Nat.zero_le _, Nat.zero_le _⟩ (fun r u H locs hw hP hD hS => ?_)
            obtain ⟨rfl, hw⟩ := hw
            have hw_76 : True := hw
            have hP : va_P D vwCl [(k0, .inr (6, [.ref k1, .ref k2, .ref k3, .int (nI tz), .int (nI ta), .int (nI n1), .int (nI n1), .int (nI 0)])), (k1, .inl (cI, 301, .inl (rI tkk))), (k2, .inl (cI, 301, .inl (rI tkv))), (k3, .inl (cI, 301, .inl (rI tks))), (t0, .inr (5, [.ref t1, .int (nI ty)])), (t1, .inl (cI, 300, .inl (rI bt)))] H := hP
            have hD : va_D A [(k0, .inr (6, [.ref k1, .ref k2, .ref k3, .int (nI tz), .int (nI ta), .int (nI n1), .int (nI n1), .int (nI 0)])), (k1, .inl (cI, 301, .inl (rI tkk))), (k2, .inl (cI, 301, .inl (rI tkv))), (k3, .inl (cI, 301, .inl (rI tks))), (t0, .inr (5, [.ref t1, .int (nI ty)])), (t1, .inl (cI, 300, .inl (rI bt)))] := hD
            refine lv_topr (x' := bb (dgB bt ty n1)) (congrArg bb (cin_dg hF)) ?_
            refine lv_if_eq (tgt := 88) hx hb dX7_readOne_79 (by decide) (fun c_79 => ?_) (fun c_79 => ?_)
            ·
              have b_79 : (dgB bt ty n1) = false := bb_eq0 c_79
              refine lv_aload_n hx hb dX7_readOne_88 rfl (lv_at hl 1 rfl) ?_
              refine lv_dup hx hb dX7_readOne_89 rfl ?_
              refine va_get (D := D) (ci := 6) (v := .int (nI n1)) (C := RX7) (T := TX7) (N := 8) hx hb hts hin_X7 hown hK hP 0 rfl rfl 6 (by decide) w_0 (fun _ h9 => h9) rfl dX7_readOne_90 ?_
              refine lv_iconst (v := (1 : Int32)) hx hb dX7_readOne_93 (by decide) ?_
              refine lv_iadd hx hb dX7_readOne_94 ?_
              refine lv_topr (x' := nI (n1 + 1)) (nI_add n1 1) ?_
              refine va_put (D := D) (ci := 6) (v := .int (nI (n1 + 1))) (ty := .int) (C := RX7) (T := TX7) (N := 8) hx hb hts hin_X7 tyX7 tyX7_ok nmX7 hown hK hP hD hS 0 rfl rfl 6 (by decide) w_0 (fun _ h9 => h9) rfl (by decide +kernel) rfl rfl (Nat.le_of_ble_eq_true rfl) dX7_readOne_95 (fun H locs hP hD hS => ?_)
              have hP : va_P D vwCl [(k0, .inr (6, [.ref k1, .ref k2, .ref k3, .int (nI tz), .int (nI ta), .int (nI n1), .int (nI (n1 + 1)), .int (nI 0)])), (k1, .inl (cI, 301, .inl (rI tkk))), (k2, .inl (cI, 301, .inl (rI tkv))), (k3, .inl (cI, 301, .inl (rI tks))), (t0, .inr (5, [.ref t1, .int (nI ty)])), (t1, .inl (cI, 300, .inl (rI bt)))] H := hP
              have hD : va_D A [(k0, .inr (6, [.ref k1, .ref k2, .ref k3, .int (nI tz), .int (nI ta), .int (nI n1), .int (nI (n1 + 1)), .int (nI 0)])), (k1, .inl (cI, 301, .inl (rI tkk))), (k2, .inl (cI, 301, .inl (rI tkv))), (k3, .inl (cI, 301, .inl (rI tks))), (t0, .inr (5, [.ref t1, .int (nI ty)])), (t1, .inl (cI, 300, .inl (rI bt)))] := hD
              refine lv_iload_n hx hb dX7_readOne_98 rfl (lv_at hl 0 rfl) ?_
              refine lv_bipush (v := (59 : Int32)) hx hb dX7_readOne_99 (by decide) ?_
              refine lv_icmp_ne (tgt := 108) hx hb dX7_readOne_101 (by decide) (fun c_101 => ?_) (fun c_101 => ?_)
              ·
                refine lv_iconst (v := (1 : Int32)) hx hb dX7_readOne_108 (by decide) ?_
                exact hret _ (n1, n1 + 1, 0) _ _ _ _ (rfl) (⟨by rw [hsk1, ckN, if_neg (show ¬ ty ≤ n1 by omega), if_neg (bfne b_66), if_neg (bfne b_79), if_neg (fun q => c_101 ((if_pos hin).trans (congrArg nI q)))]; rfl, hsk1.symm, by rw [hsk1, tkE, if_neg (show ¬ ty ≤ n1 by omega), if_neg (bfne b_66), if_neg (bfne b_79)], by rw [hsk1, cvN, if_neg (bfne b_79)]⟩) hP hD hS dX7_readOne_109
              ·
                refine lv_iconst (v := (2 : Int32)) hx hb dX7_readOne_104 (by decide) ?_
                refine lv_goto (tgt := 109) hx hb dX7_readOne_105 (by decide) ?_
                exact hret _ (n1, n1 + 1, 0) _ _ _ _ (rfl) (⟨by rw [hsk1, ckN, if_neg (show ¬ ty ≤ n1 by omega), if_neg (bfne b_66), if_neg (bfne b_79), if_pos ((nI_eq (show bt n1 < 2147483648 by omega) (show 59 < 2147483648 by decide)).1 ((if_pos hin).symm.trans c_101))]; rfl, hsk1.symm, by rw [hsk1, tkE, if_neg (show ¬ ty ≤ n1 by omega), if_neg (bfne b_66), if_neg (bfne b_79)], by rw [hsk1, cvN, if_neg (bfne b_79)]⟩) hP hD hS dX7_readOne_109
            ·
              have b_79 : (dgB bt ty n1) = true := bb_neq0 c_79
              refine lv_aload_n hx hb dX7_readOne_82 rfl (lv_at hl 1 rfl) ?_
              refine lv_aload_n hx hb dX7_readOne_83 rfl (lv_at hl 2 rfl) ?_
              refine xcV_i (As := [.ref t0]) (rest := []) (wc := [(k0, .inr (6, [.ref k1, .ref k2, .ref k3, .int (nI tz), .int (nI ta), .int (nI n1), .int (nI n1), .int (nI 0)])), (k1, .inl (cI, 301, .inl (rI tkk))), (k2, .inl (cI, 301, .inl (rI tkv))), (k3, .inl (cI, 301, .inl (rI tks))), (t0, .inr (5, [.ref t1, .int (nI ty)])), (t1, .inl (cI, 300, .inl (rI bt)))]) (wr := []) (w3 := fun (u : Nat × Nat) => [(k0, .inr (6, [.ref k1, .ref k2, .ref k3, .int (nI tz), .int (nI ta), .int (nI n1), .int (nI (u.1)), .int (nI (u.2))])), (k1, .inl (cI, 301, .inl (rI tkk))), (k2, .inl (cI, 301, .inl (rI tkv))), (k3, .inl (cI, 301, .inl (rI tks))), (t0, .inr (5, [.ref t1, .int (nI ty)])), (t1, .inl (cI, 300, .inl (rI bt)))]) ⟨hx, hb, hml, hown, hts⟩ (c_X7_readNumber l D cI cZ cO H.size gR gD gK gV k0 k1 k2 k3 tz ta tkk tkv tks n1 t0 t1 ty bt (by first | assumption | omega | rfl) (by first | assumption | omega | rfl) (by first | assumption | omega | rfl)) (cwV 1 hts gX7_readOne_X7_readNumber rfl rfl rfl (by decide +kernel) ⟨Nat.le_of_ble_eq_true rfl, Nat.le_of_ble_eq_true rfl⟩) (xGdc gR gD gK gV) (xGdc gR gD gK gV) (fun _ _ _ h => h) hG hP hD hK hS hA [0, 1, 2, 3, 4, 5] [] [0, 1, 2, 3, 4, 5] rfl rfl rfl rfl rfl 0 rfl rfl rfl (fun _ => rfl) rfl rfl hl.1 (Nat.le_of_ble_eq_true rfl) dX7_readOne_84 ⟨Nat.zero_le _, Nat.zero_le _⟩ (fun r u H locs hw hP hD hS => ?_)
              obtain ⟨z_1, z_2⟩ := u
              obtain ⟨rfl, hw⟩ := hw
              have hw_84 : z_1 = dgE bt ty n1 ∧ z_2 = min 100 (nuN bt ty n1) := hw
              have hP : va_P D vwCl [(k0, .inr (6, [.ref k1, .ref k2, .ref k3, .int (nI tz), .int (nI ta), .int (nI n1), .int (nI z_1), .int (nI z_2)])), (k1, .inl (cI, 301, .inl (rI tkk))), (k2, .inl (cI, 301, .inl (rI tkv))), (k3, .inl (cI, 301, .inl (rI tks))), (t0, .inr (5, [.ref t1, .int (nI ty)])), (t1, .inl (cI, 300, .inl (rI bt)))] H := hP
              have hD : va_D A [(k0, .inr (6, [.ref k1, .ref k2, .ref k3, .int (nI tz), .int (nI ta), .int (nI n1), .int (nI z_1), .int (nI z_2)])), (k1, .inl (cI, 301, .inl (rI tkk))), (k2, .inl (cI, 301, .inl (rI tkv))), (k3, .inl (cI, 301, .inl (rI tks))), (t0, .inr (5, [.ref t1, .int (nI ty)])), (t1, .inl (cI, 300, .inl (rI bt)))] := hD
              exact hret _ (n1, z_1, z_2) _ _ _ _ (rfl) (⟨by rw [hsk1, ckN, if_neg (show ¬ ty ≤ n1 by omega), if_neg (bfne b_66), if_pos b_79], hsk1.symm, by rw [hsk1, tkE, if_neg (show ¬ ty ≤ n1 by omega), if_neg (bfne b_66), if_pos b_79, hw_84.1], by rw [hsk1, cvN, if_pos b_79, hw_84.2]⟩) hP hD hS dX7_readOne_87
          ·
            have b_66 : (ltB bt ty n1) = true := bb_neq0 c_66
            refine lv_aload_n hx hb dX7_readOne_69 rfl (lv_at hl 1 rfl) ?_
            refine lv_aload_n hx hb dX7_readOne_70 rfl (lv_at hl 2 rfl) ?_
            refine xcV_i (As := [.ref t0]) (rest := []) (wc := [(k0, .inr (6, [.ref k1, .ref k2, .ref k3, .int (nI tz), .int (nI ta), .int (nI n1), .int (nI n1), .int (nI 0)])), (k1, .inl (cI, 301, .inl (rI tkk))), (k2, .inl (cI, 301, .inl (rI tkv))), (k3, .inl (cI, 301, .inl (rI tks))), (t0, .inr (5, [.ref t1, .int (nI ty)])), (t1, .inl (cI, 300, .inl (rI bt)))]) (wr := []) (w3 := fun (u : Nat) => [(k0, .inr (6, [.ref k1, .ref k2, .ref k3, .int (nI tz), .int (nI ta), .int (nI n1), .int (nI u), .int (nI 0)])), (k1, .inl (cI, 301, .inl (rI tkk))), (k2, .inl (cI, 301, .inl (rI tkv))), (k3, .inl (cI, 301, .inl (rI tks))), (t0, .inr (5, [.ref t1, .int (nI ty)])), (t1, .inl (cI, 300, .inl (rI bt)))]) ⟨hx, hb, hml, hown, hts⟩ (c_X7_readWord l D cI cZ cO H.size gR gD gK gV k0 k1 k2 k3 tz ta 0 tkk tkv tks n1 t0 t1 ty bt (by first | assumption | omega | rfl) (by first | assumption | omega | rfl) (by first | assumption | omega | rfl)) (cwV 1 hts gX7_readOne_X7_readWord rfl rfl rfl (by decide +kernel) ⟨Nat.le_of_ble_eq_true rfl, Nat.le_of_ble_eq_true rfl⟩) (xGdc gR gD gK gV) (xGdc gR gD gK gV) (fun _ _ _ h => h) hG hP hD hK hS hA [0, 1, 2, 3, 4, 5] [] [0, 1, 2, 3, 4, 5] rfl rfl rfl rfl rfl 0 rfl rfl rfl (fun _ => rfl) rfl rfl hl.1 (Nat.le_of_ble_eq_true rfl) dX7_readOne_71 ⟨Nat.zero_le _, Nat.zero_le _⟩ (fun r u H locs hw hP hD hS => ?_)
            obtain ⟨z_3, rfl⟩ : ∃ z, z = u := ⟨_, rfl⟩
            obtain ⟨rfl, hw⟩ := hw
            have hw_71 : z_3 = leE bt ty n1 := hw
            have hP : va_P D vwCl [(k0, .inr (6, [.ref k1, .ref k2, .ref k3, .int (nI tz), .int (nI ta), .int (nI n1), .int (nI z_3), .int (nI 0)])), (k1, .inl (cI, 301, .inl (rI tkk))), (k2, .inl (cI, 301, .inl (rI tkv))), (k3, .inl (cI, 301, .inl (rI tks))), (t0, .inr (5, [.ref t1, .int (nI ty)])), (t1, .inl (cI, 300, .inl (rI bt)))] H := hP
            have hD : va_D A [(k0, .inr (6, [.ref k1, .ref k2, .ref k3, .int (nI tz), .int (nI ta), .int (nI n1), .int (nI z_3), .int (nI 0)])), (k1, .inl (cI, 301, .inl (rI tkk))), (k2, .inl (cI, 301, .inl (rI tkv))), (k3, .inl (cI, 301, .inl (rI tks))), (t0, .inr (5, [.ref t1, .int (nI ty)])), (t1, .inl (cI, 300, .inl (rI bt)))] := hD
            exact hret _ (n1, z_3, 0) _ _ _ _ (rfl) (⟨by rw [hsk1, ckN, if_neg (show ¬ ty ≤ n1 by omega), if_pos b_66], hsk1.symm, by rw [hsk1, tkE, if_neg (show ¬ ty ≤ n1 by omega), if_pos b_66, hw_71], by rw [hsk1, cvN, lt_dg b_66]; rfl⟩) hP hD hS dX7_readOne_74
        ·
          have hend : ty ≤ n1 := (cA_9 hF).1 c_57
          refine lv_iconst (v := (0 : Int32)) hx hb dX7_readOne_60 (by decide) ?_
          exact hret _ (n1, n1, 0) _ _ _ _ (rfl) (⟨by rw [hsk1, ckN, if_pos hend]; rfl, hsk1.symm, by rw [hsk1, tkE, if_pos hend], by rw [hsk1, cvN, if_neg (fun q => absurd (of_decide_eq_true q).1 (by omega))]⟩) hP hD hS dX7_readOne_61
      ·
        have n_8 : n1 < ty := Nat.lt_of_not_le (fun q => c_8 ((nI_leI (show ty < 2147483648 by omega) (show n1 < 2147483648 by omega)).2 q))
        refine lv_aload_n hx hb dX7_readOne_11 rfl (lv_at hl 1 rfl) ?_
        refine lv_aload_n hx hb dX7_readOne_12 rfl (lv_at hl 0 rfl) ?_
        refine va_get (D := D) (ci := 6) (v := .int (nI n1)) (C := RX7) (T := TX7) (N := 8) hx hb hts hin_X7 hown hK hP 0 rfl rfl 6 (by decide) w_0 (fun _ h9 => h9) rfl dX7_readOne_13 ?_
        refine xcV_i (As := [.int (nI n1)]) (rest := []) (wc := [(t0, .inr (5, [.ref t1, .int (nI ty)])), (t1, .inl (cI, 300, .inl (rI bt)))]) (wr := [(k0, .inr (6, [.ref k1, .ref k2, .ref k3, .int (nI tz), .int (nI ta), .int (nI ts_), .int (nI n1), .int (nI 0)])), (k1, .inl (cI, 301, .inl (rI tkk))), (k2, .inl (cI, 301, .inl (rI tkv))), (k3, .inl (cI, 301, .inl (rI tks)))]) (w3 := fun (u : Unit) => [(k0, .inr (6, [.ref k1, .ref k2, .ref k3, .int (nI tz), .int (nI ta), .int (nI ts_), .int (nI n1), .int (nI 0)])), (k1, .inl (cI, 301, .inl (rI tkk))), (k2, .inl (cI, 301, .inl (rI tkv))), (k3, .inl (cI, 301, .inl (rI tks))), (t0, .inr (5, [.ref t1, .int (nI ty)])), (t1, .inl (cI, 300, .inl (rI bt)))]) ⟨hx, hb, hml, hown, hts⟩ (c_X6_byteAt l D cI cZ cO H.size t0 t1 ty bt n1 (by first | assumption | omega | rfl) (by omega)) (cwV 1 hts gX7_readOne_X6_byteAt rfl rfl rfl (by decide +kernel) ⟨Nat.le_of_ble_eq_true rfl, Nat.le_of_ble_eq_true rfl⟩) (xGdc gR gD gK gV) xGd0 (fun _ _ _ _ => trivial) hG hP hD hK hS hA [4, 5] [0, 1, 2, 3] [0, 1, 2, 3, 4, 5] rfl rfl rfl rfl rfl 4 rfl rfl rfl (fun _ => rfl) rfl rfl hl.1 (Nat.le_of_ble_eq_true rfl) dX7_readOne_16 ⟨Nat.zero_le _, Nat.zero_le _⟩ (fun r u H locs hw hP hD hS => ?_)
        obtain ⟨rfl, hw⟩ := hw
        have hw_16 : True := hw
        have hP : va_P D vwCl [(k0, .inr (6, [.ref k1, .ref k2, .ref k3, .int (nI tz), .int (nI ta), .int (nI ts_), .int (nI n1), .int (nI 0)])), (k1, .inl (cI, 301, .inl (rI tkk))), (k2, .inl (cI, 301, .inl (rI tkv))), (k3, .inl (cI, 301, .inl (rI tks))), (t0, .inr (5, [.ref t1, .int (nI ty)])), (t1, .inl (cI, 300, .inl (rI bt)))] H := hP
        have hD : va_D A [(k0, .inr (6, [.ref k1, .ref k2, .ref k3, .int (nI tz), .int (nI ta), .int (nI ts_), .int (nI n1), .int (nI 0)])), (k1, .inl (cI, 301, .inl (rI tkk))), (k2, .inl (cI, 301, .inl (rI tkv))), (k3, .inl (cI, 301, .inl (rI tks))), (t0, .inr (5, [.ref t1, .int (nI ty)])), (t1, .inl (cI, 300, .inl (rI bt)))] := hD
        have hb1 := hF n1 (by omega)
        refine lv_topr (x' := nI (bt n1)) (if_pos n_8) ?_
        refine lv_bipush (v := (32 : Int32)) hx hb dX7_readOne_19 (by decide) ?_
        refine lv_icmp_ne (tgt := 37) hx hb dX7_readOne_21 (by decide) (fun c_21 => ?_) (fun c_21 => ?_)
        ·
          have n_21 : ¬ (bt n1) = 32 := fun q => c_21 (congrArg nI q)
          have hsk1 : skN bt ty nx = n1 := hsk.symm.trans (runE_stop (P := whB bt ty) (by first | exact decide_eq_false (fun q => n_21 q.2) | exact decide_eq_false (fun q => absurd q.1 (by omega))) _)
          refine lv_aload_n hx hb dX7_readOne_37 rfl (lv_at hl 0 rfl) ?_
          refine lv_aload_n hx hb dX7_readOne_38 rfl (lv_at hl 0 rfl) ?_
          refine va_get (D := D) (ci := 6) (v := .int (nI n1)) (C := RX7) (T := TX7) (N := 8) hx hb hts hin_X7 hown hK hP 0 rfl rfl 6 (by decide) w_0 (fun _ h9 => h9) rfl dX7_readOne_39 ?_
          refine va_put (D := D) (ci := 6) (v := .int (nI n1)) (ty := .int) (C := RX7) (T := TX7) (N := 8) hx hb hts hin_X7 tyX7 tyX7_ok nmX7 hown hK hP hD hS 0 rfl rfl 5 (by decide) w_1 (fun _ h9 => h9) rfl (by decide +kernel) rfl rfl (Nat.le_of_ble_eq_true rfl) dX7_readOne_42 (fun H locs hP hD hS => ?_)
          have hP : va_P D vwCl [(k0, .inr (6, [.ref k1, .ref k2, .ref k3, .int (nI tz), .int (nI ta), .int (nI n1), .int (nI n1), .int (nI 0)])), (k1, .inl (cI, 301, .inl (rI tkk))), (k2, .inl (cI, 301, .inl (rI tkv))), (k3, .inl (cI, 301, .inl (rI tks))), (t0, .inr (5, [.ref t1, .int (nI ty)])), (t1, .inl (cI, 300, .inl (rI bt)))] H := hP
          have hD : va_D A [(k0, .inr (6, [.ref k1, .ref k2, .ref k3, .int (nI tz), .int (nI ta), .int (nI n1), .int (nI n1), .int (nI 0)])), (k1, .inl (cI, 301, .inl (rI tkk))), (k2, .inl (cI, 301, .inl (rI tkv))), (k3, .inl (cI, 301, .inl (rI tks))), (t0, .inr (5, [.ref t1, .int (nI ty)])), (t1, .inl (cI, 300, .inl (rI bt)))] := hD
          refine lv_aload_n hx hb dX7_readOne_45 rfl (lv_at hl 1 rfl) ?_
          refine lv_aload_n hx hb dX7_readOne_46 rfl (lv_at hl 0 rfl) ?_
          refine va_get (D := D) (ci := 6) (v := .int (nI n1)) (C := RX7) (T := TX7) (N := 8) hx hb hts hin_X7 hown hK hP 0 rfl rfl 5 (by decide) w_1 (fun _ h9 => h9) rfl dX7_readOne_47 ?_
          refine xcV_i (As := [.int (nI n1)]) (rest := []) (wc := [(t0, .inr (5, [.ref t1, .int (nI ty)])), (t1, .inl (cI, 300, .inl (rI bt)))]) (wr := [(k0, .inr (6, [.ref k1, .ref k2, .ref k3, .int (nI tz), .int (nI ta), .int (nI n1), .int (nI n1), .int (nI 0)])), (k1, .inl (cI, 301, .inl (rI tkk))), (k2, .inl (cI, 301, .inl (rI tkv))), (k3, .inl (cI, 301, .inl (rI tks)))]) (w3 := fun (u : Unit) => [(k0, .inr (6, [.ref k1, .ref k2, .ref k3, .int (nI tz), .int (nI ta), .int (nI n1), .int (nI n1), .int (nI 0)])), (k1, .inl (cI, 301, .inl (rI tkk))), (k2, .inl (cI, 301, .inl (rI tkv))), (k3, .inl (cI, 301, .inl (rI tks))), (t0, .inr (5, [.ref t1, .int (nI ty)])), (t1, .inl (cI, 300, .inl (rI bt)))]) ⟨hx, hb, hml, hown, hts⟩ (c_X6_byteAt l D cI cZ cO H.size t0 t1 ty bt n1 (by first | assumption | omega | rfl) (by omega)) (cwV 1 hts gX7_readOne_X6_byteAt rfl rfl rfl (by decide +kernel) ⟨Nat.le_of_ble_eq_true rfl, Nat.le_of_ble_eq_true rfl⟩) (xGdc gR gD gK gV) xGd0 (fun _ _ _ _ => trivial) hG hP hD hK hS hA [4, 5] [0, 1, 2, 3] [0, 1, 2, 3, 4, 5] rfl rfl rfl rfl rfl 4 rfl rfl rfl (fun _ => rfl) rfl rfl hl.1 (Nat.le_of_ble_eq_true rfl) dX7_readOne_50 ⟨Nat.zero_le _, Nat.zero_le _⟩ (fun r u H locs hw hP hD hS => ?_)
          obtain ⟨rfl, hw⟩ := hw
          have hw_50 : True := hw
          have hP : va_P D vwCl [(k0, .inr (6, [.ref k1, .ref k2, .ref k3, .int (nI tz), .int (nI ta), .int (nI n1), .int (nI n1), .int (nI 0)])), (k1, .inl (cI, 301, .inl (rI tkk))), (k2, .inl (cI, 301, .inl (rI tkv))), (k3, .inl (cI, 301, .inl (rI tks))), (t0, .inr (5, [.ref t1, .int (nI ty)])), (t1, .inl (cI, 300, .inl (rI bt)))] H := hP
          have hD : va_D A [(k0, .inr (6, [.ref k1, .ref k2, .ref k3, .int (nI tz), .int (nI ta), .int (nI n1), .int (nI n1), .int (nI 0)])), (k1, .inl (cI, 301, .inl (rI tkk))), (k2, .inl (cI, 301, .inl (rI tkv))), (k3, .inl (cI, 301, .inl (rI tks))), (t0, .inr (5, [.ref t1, .int (nI ty)])), (t1, .inl (cI, 300, .inl (rI bt)))] := hD
          refine lv_istore_n (lv' := [(2, .int (if n1 < ty then nI (bt n1) else (-9))), (0, .ref k0), (1, .ref t0)]) hx hb dX7_readOne_53 rfl hl (by decide) rfl (fun ls hl => ?_)
          refine lv_iload_n hx hb dX7_readOne_54 rfl (lv_at hl 0 rfl) ?_
          refine lv_bipush (v := (-9 : Int32)) hx hb dX7_readOne_55 (by decide) ?_
          refine lv_icmp_ne (tgt := 62) hx hb dX7_readOne_57 (by decide) (fun c_57 => ?_) (fun c_57 => ?_)
          ·
            have hin : n1 < ty := Nat.lt_of_not_le (fun q => c_57 ((cA_9 hF).2 q))
            have hb2 := hF n1 hin
            refine lv_iload_n hx hb dX7_readOne_62 rfl (lv_at hl 0 rfl) ?_
            refine xcS_i (As := [.int (if n1 < ty then nI (bt n1) else (-9))]) (rest := []) (wc := []) (wr := [(k0, .inr (6, [.ref k1, .ref k2, .ref k3, .int (nI tz), .int (nI ta), .int (nI n1), .int (nI n1), .int (nI 0)])), (k1, .inl (cI, 301, .inl (rI tkk))), (k2, .inl (cI, 301, .inl (rI tkv))), (k3, .inl (cI, 301, .inl (rI tks))), (t0, .inr (5, [.ref t1, .int (nI ty)])), (t1, .inl (cI, 300, .inl (rI bt)))]) (w3 := fun (u : Unit) => [(k0, .inr (6, [.ref k1, .ref k2, .ref k3, .int (nI tz), .int (nI ta), .int (nI n1), .int (nI n1), .int (nI 0)])), (k1, .inl (cI, 301, .inl (rI tkk))), (k2, .inl (cI, 301, .inl (rI tkv))), (k3, .inl (cI, 301, .inl (rI tks))), (t0, .inr (5, [.ref t1, .int (nI ty)])), (t1, .inl (cI, 300, .inl (rI bt)))]) ⟨hx, hb, hml, hown, hts⟩ (c_X7_isLetter l D cI cZ cO H.size gR gD gK gV (if n1 < ty then nI (bt n1) else (-9)) ) (va_cwS 1 hts gX7_readOne_X7_isLetter rfl rfl rfl (by decide +kernel) ⟨Nat.le_of_ble_eq_true rfl, Nat.le_of_ble_eq_true rfl⟩) (xGdc gR gD gK gV) (xGdc gR gD gK gV) (fun _ _ _ h => h) hG hP hD hK hS hA [] [0, 1, 2, 3, 4, 5] [0, 1, 2, 3, 4, 5] rfl rfl rfl rfl rfl rfl (fun _ => rfl) rfl rfl hl.1 (Nat.le_of_ble_eq_true rfl) dX7_readOne_63 ⟨Nat.zero_le _, Nat.zero_le _⟩ (fun r u H locs hw hP hD hS => ?_)
            obtain ⟨rfl, hw⟩ := hw
            have hw_63 : True := hw
            have hP : va_P D vwCl [(k0, .inr (6, [.ref k1, .ref k2, .ref k3, .int (nI tz), .int (nI ta), .int (nI n1), .int (nI n1), .int (nI 0)])), (k1, .inl (cI, 301, .inl (rI tkk))), (k2, .inl (cI, 301, .inl (rI tkv))), (k3, .inl (cI, 301, .inl (rI tks))), (t0, .inr (5, [.ref t1, .int (nI ty)])), (t1, .inl (cI, 300, .inl (rI bt)))] H := hP
            have hD : va_D A [(k0, .inr (6, [.ref k1, .ref k2, .ref k3, .int (nI tz), .int (nI ta), .int (nI n1), .int (nI n1), .int (nI 0)])), (k1, .inl (cI, 301, .inl (rI tkk))), (k2, .inl (cI, 301, .inl (rI tkv))), (k3, .inl (cI, 301, .inl (rI tks))), (t0, .inr (5, [.ref t1, .int (nI ty)])), (t1, .inl (cI, 300, .inl (rI bt)))] := hD
            refine lv_topr (x' := bb (ltB bt ty n1)) (congrArg bb (cin_lt hF)) ?_
            refine lv_if_eq (tgt := 75) hx hb dX7_readOne_66 (by decide) (fun c_66 => ?_) (fun c_66 => ?_)
            ·
              have b_66 : (ltB bt ty n1) = false := bb_eq0 c_66
              refine lv_iload_n hx hb dX7_readOne_75 rfl (lv_at hl 0 rfl) ?_
              refine xcS_i (As := [.int (if n1 < ty then nI (bt n1) else (-9))]) (rest := []) (wc := []) (wr := [(k0, .inr (6, [.ref k1, .ref k2, .ref k3, .int (nI tz), .int (nI ta), .int (nI n1), .int (nI n1), .int (nI 0)])), (k1, .inl (cI, 301, .inl (rI tkk))), (k2, .inl (cI, 301, .inl (rI tkv))), (k3, .inl (cI, 301, .inl (rI tks))), (t0, .inr (5, [.ref t1, .int (nI ty)])), (t1, .inl (cI, 300, .inl (rI bt)))]) (w3 := fun (u : Unit) => [(k0, .inr (6, [.ref k1, .ref k2, .ref k3, .int (nI tz), .int (nI ta), .int (nI n1), .int (nI n1), .int (nI 0)])), (k1, .inl (cI, 301, .inl (rI tkk))), (k2, .inl (cI, 301, .inl (rI tkv))), (k3, .inl (cI, 301, .inl (rI tks))), (t0, .inr (5, [.ref t1, .int (nI ty)])), (t1, .inl (cI, 300, .inl (rI bt)))]) ⟨hx, hb, hml, hown, hts⟩ (c_X7_isDigit l D cI cZ cO H.size gR gD gK gV (if n1 < ty then nI (bt n1) else (-9)) ) (va_cwS 1 hts gX7_readOne_X7_isDigit rfl rfl rfl (by decide +kernel) ⟨Nat.le_of_ble_eq_true rfl, Nat.le_of_ble_eq_true rfl⟩) (xGdc gR gD gK gV) (xGdc gR gD gK gV) (fun _ _ _ h => h) hG hP hD hK hS hA [] [0, 1, 2, 3, 4, 5] [0, 1, 2, 3, 4, 5] rfl rfl rfl rfl rfl rfl (fun _ => rfl) rfl rfl hl.1 (Nat.le_of_ble_eq_true rfl) dX7_readOne_76 ⟨Nat.zero_le _, Nat.zero_le _⟩ (fun r u H locs hw hP hD hS => ?_)
              obtain ⟨rfl, hw⟩ := hw
              have hw_76 : True := hw
              have hP : va_P D vwCl [(k0, .inr (6, [.ref k1, .ref k2, .ref k3, .int (nI tz), .int (nI ta), .int (nI n1), .int (nI n1), .int (nI 0)])), (k1, .inl (cI, 301, .inl (rI tkk))), (k2, .inl (cI, 301, .inl (rI tkv))), (k3, .inl (cI, 301, .inl (rI tks))), (t0, .inr (5, [.ref t1, .int (nI ty)])), (t1, .inl (cI, 300, .inl (rI bt)))] H := hP
              have hD : va_D A [(k0, .inr (6, [.ref k1, .ref k2, .ref k3, .int (nI tz), .int (nI ta), .int (nI n1), .int (nI n1), .int (nI 0)])), (k1, .inl (cI, 301, .inl (rI tkk))), (k2, .inl (cI, 301, .inl (rI tkv))), (k3, .inl (cI, 301, .inl (rI tks))), (t0, .inr (5, [.ref t1, .int (nI ty)])), (t1, .inl (cI, 300, .inl (rI bt)))] := hD
              refine lv_topr (x' := bb (dgB bt ty n1)) (congrArg bb (cin_dg hF)) ?_
              refine lv_if_eq (tgt := 88) hx hb dX7_readOne_79 (by decide) (fun c_79 => ?_) (fun c_79 => ?_)
              ·
                have b_79 : (dgB bt ty n1) = false := bb_eq0 c_79
                refine lv_aload_n hx hb dX7_readOne_88 rfl (lv_at hl 1 rfl) ?_
                refine lv_dup hx hb dX7_readOne_89 rfl ?_
                refine va_get (D := D) (ci := 6) (v := .int (nI n1)) (C := RX7) (T := TX7) (N := 8) hx hb hts hin_X7 hown hK hP 0 rfl rfl 6 (by decide) w_0 (fun _ h9 => h9) rfl dX7_readOne_90 ?_
                refine lv_iconst (v := (1 : Int32)) hx hb dX7_readOne_93 (by decide) ?_
                refine lv_iadd hx hb dX7_readOne_94 ?_
                refine lv_topr (x' := nI (n1 + 1)) (nI_add n1 1) ?_
                refine va_put (D := D) (ci := 6) (v := .int (nI (n1 + 1))) (ty := .int) (C := RX7) (T := TX7) (N := 8) hx hb hts hin_X7 tyX7 tyX7_ok nmX7 hown hK hP hD hS 0 rfl rfl 6 (by decide) w_0 (fun _ h9 => h9) rfl (by decide +kernel) rfl rfl (Nat.le_of_ble_eq_true rfl) dX7_readOne_95 (fun H locs hP hD hS => ?_)
                have hP : va_P D vwCl [(k0, .inr (6, [.ref k1, .ref k2, .ref k3, .int (nI tz), .int (nI ta), .int (nI n1), .int (nI (n1 + 1)), .int (nI 0)])), (k1, .inl (cI, 301, .inl (rI tkk))), (k2, .inl (cI, 301, .inl (rI tkv))), (k3, .inl (cI, 301, .inl (rI tks))), (t0, .inr (5, [.ref t1, .int (nI ty)])), (t1, .inl (cI, 300, .inl (rI bt)))] H := hP
                have hD : va_D A [(k0, .inr (6, [.ref k1, .ref k2, .ref k3, .int (nI tz), .int (nI ta), .int (nI n1), .int (nI (n1 + 1)), .int (nI 0)])), (k1, .inl (cI, 301, .inl (rI tkk))), (k2, .inl (cI, 301, .inl (rI tkv))), (k3, .inl (cI, 301, .inl (rI tks))), (t0, .inr (5, [.ref t1, .int (nI ty)])), (t1, .inl (cI, 300, .inl (rI bt)))] := hD
                refine lv_iload_n hx hb dX7_readOne_98 rfl (lv_at hl 0 rfl) ?_
                refine lv_bipush (v := (59 : Int32)) hx hb dX7_readOne_99 (by decide) ?_
                refine lv_icmp_ne (tgt := 108) hx hb dX7_readOne_101 (by decide) (fun c_101 => ?_) (fun c_101 => ?_)
                ·
                  refine lv_iconst (v := (1 : Int32)) hx hb dX7_readOne_108 (by decide) ?_
                  exact hret _ (n1, n1 + 1, 0) _ _ _ _ (rfl) (⟨by rw [hsk1, ckN, if_neg (show ¬ ty ≤ n1 by omega), if_neg (bfne b_66), if_neg (bfne b_79), if_neg (fun q => c_101 ((if_pos hin).trans (congrArg nI q)))]; rfl, hsk1.symm, by rw [hsk1, tkE, if_neg (show ¬ ty ≤ n1 by omega), if_neg (bfne b_66), if_neg (bfne b_79)], by rw [hsk1, cvN, if_neg (bfne b_79)]⟩) hP hD hS dX7_readOne_109
                ·
                  refine lv_iconst (v := (2 : Int32)) hx hb dX7_readOne_104 (by decide) ?_
                  refine lv_goto (tgt := 109) hx hb dX7_readOne_105 (by decide) ?_
                  exact hret _ (n1, n1 + 1, 0) _ _ _ _ (rfl) (⟨by rw [hsk1, ckN, if_neg (show ¬ ty ≤ n1 by omega), if_neg (bfne b_66), if_neg (bfne b_79), if_pos ((nI_eq (show bt n1 < 2147483648 by omega) (show 59 < 2147483648 by decide)).1 ((if_pos hin).symm.trans c_101))]; rfl, hsk1.symm, by rw [hsk1, tkE, if_neg (show ¬ ty ≤ n1 by omega), if_neg (bfne b_66), if_neg (bfne b_79)], by rw [hsk1, cvN, if_neg (bfne b_79)]⟩) hP hD hS dX7_readOne_109
              ·
                have b_79 : (dgB bt ty n1) = true := bb_neq0 c_79
                refine lv_aload_n hx hb dX7_readOne_82 rfl (lv_at hl 1 rfl) ?_
                refine lv_aload_n hx hb dX7_readOne_83 rfl (lv_at hl 2 rfl) ?_
                refine xcV_i (As := [.ref t0]) (rest := []) (wc := [(k0, .inr (6, [.ref k1, .ref k2, .ref k3, .int (nI tz), .int (nI ta), .int (nI n1), .int (nI n1), .int (nI 0)])), (k1, .inl (cI, 301, .inl (rI tkk))), (k2, .inl (cI, 301, .inl (rI tkv))), (k3, .inl (cI, 301, .inl (rI tks))), (t0, .inr (5, [.ref t1, .int (nI ty)])), (t1, .inl (cI, 300, .inl (rI bt)))]) (wr := []) (w3 := fun (u : Nat × Nat) => [(k0, .inr (6, [.ref k1, .ref k2, .ref k3, .int (nI tz), .int (nI ta), .int (nI n1), .int (nI (u.1)), .int (nI (u.2))])), (k1, .inl (cI, 301, .inl (rI tkk))), (k2, .inl (cI, 301, .inl (rI tkv))), (k3, .inl (cI, 301, .inl (rI tks))), (t0, .inr (5, [.ref t1, .int (nI ty)])), (t1, .inl (cI, 300, .inl (rI bt)))]) ⟨hx, hb, hml, hown, hts⟩ (c_X7_readNumber l D cI cZ cO H.size gR gD gK gV k0 k1 k2 k3 tz ta tkk tkv tks n1 t0 t1 ty bt (by first | assumption | omega | rfl) (by first | assumption | omega | rfl) (by first | assumption | omega | rfl)) (cwV 1 hts gX7_readOne_X7_readNumber rfl rfl rfl (by decide +kernel) ⟨Nat.le_of_ble_eq_true rfl, Nat.le_of_ble_eq_true rfl⟩) (xGdc gR gD gK gV) (xGdc gR gD gK gV) (fun _ _ _ h => h) hG hP hD hK hS hA [0, 1, 2, 3, 4, 5] [] [0, 1, 2, 3, 4, 5] rfl rfl rfl rfl rfl 0 rfl rfl rfl (fun _ => rfl) rfl rfl hl.1 (Nat.le_of_ble_eq_true rfl) dX7_readOne_84 ⟨Nat.zero_le _, Nat.zero_le _⟩ (fun r u H locs hw hP hD hS => ?_)
                obtain ⟨z_4, z_5⟩ := u
                obtain ⟨rfl, hw⟩ := hw
                have hw_84 : z_4 = dgE bt ty n1 ∧ z_5 = min 100 (nuN bt ty n1) := hw
                have hP : va_P D vwCl [(k0, .inr (6, [.ref k1, .ref k2, .ref k3, .int (nI tz), .int (nI ta), .int (nI n1), .int (nI z_4), .int (nI z_5)])), (k1, .inl (cI, 301, .inl (rI tkk))), (k2, .inl (cI, 301, .inl (rI tkv))), (k3, .inl (cI, 301, .inl (rI tks))), (t0, .inr (5, [.ref t1, .int (nI ty)])), (t1, .inl (cI, 300, .inl (rI bt)))] H := hP
                have hD : va_D A [(k0, .inr (6, [.ref k1, .ref k2, .ref k3, .int (nI tz), .int (nI ta), .int (nI n1), .int (nI z_4), .int (nI z_5)])), (k1, .inl (cI, 301, .inl (rI tkk))), (k2, .inl (cI, 301, .inl (rI tkv))), (k3, .inl (cI, 301, .inl (rI tks))), (t0, .inr (5, [.ref t1, .int (nI ty)])), (t1, .inl (cI, 300, .inl (rI bt)))] := hD
                exact hret _ (n1, z_4, z_5) _ _ _ _ (rfl) (⟨by rw [hsk1, ckN, if_neg (show ¬ ty ≤ n1 by omega), if_neg (bfne b_66), if_pos b_79], hsk1.symm, by rw [hsk1, tkE, if_neg (show ¬ ty ≤ n1 by omega), if_neg (bfne b_66), if_pos b_79, hw_84.1], by rw [hsk1, cvN, if_pos b_79, hw_84.2]⟩) hP hD hS dX7_readOne_87
            ·
              have b_66 : (ltB bt ty n1) = true := bb_neq0 c_66
              refine lv_aload_n hx hb dX7_readOne_69 rfl (lv_at hl 1 rfl) ?_
              refine lv_aload_n hx hb dX7_readOne_70 rfl (lv_at hl 2 rfl) ?_
              refine xcV_i (As := [.ref t0]) (rest := []) (wc := [(k0, .inr (6, [.ref k1, .ref k2, .ref k3, .int (nI tz), .int (nI ta), .int (nI n1), .int (nI n1), .int (nI 0)])), (k1, .inl (cI, 301, .inl (rI tkk))), (k2, .inl (cI, 301, .inl (rI tkv))), (k3, .inl (cI, 301, .inl (rI tks))), (t0, .inr (5, [.ref t1, .int (nI ty)])), (t1, .inl (cI, 300, .inl (rI bt)))]) (wr := []) (w3 := fun (u : Nat) => [(k0, .inr (6, [.ref k1, .ref k2, .ref k3, .int (nI tz), .int (nI ta), .int (nI n1), .int (nI u), .int (nI 0)])), (k1, .inl (cI, 301, .inl (rI tkk))), (k2, .inl (cI, 301, .inl (rI tkv))), (k3, .inl (cI, 301, .inl (rI tks))), (t0, .inr (5, [.ref t1, .int (nI ty)])), (t1, .inl (cI, 300, .inl (rI bt)))]) ⟨hx, hb, hml, hown, hts⟩ (c_X7_readWord l D cI cZ cO H.size gR gD gK gV k0 k1 k2 k3 tz ta 0 tkk tkv tks n1 t0 t1 ty bt (by first | assumption | omega | rfl) (by first | assumption | omega | rfl) (by first | assumption | omega | rfl)) (cwV 1 hts gX7_readOne_X7_readWord rfl rfl rfl (by decide +kernel) ⟨Nat.le_of_ble_eq_true rfl, Nat.le_of_ble_eq_true rfl⟩) (xGdc gR gD gK gV) (xGdc gR gD gK gV) (fun _ _ _ h => h) hG hP hD hK hS hA [0, 1, 2, 3, 4, 5] [] [0, 1, 2, 3, 4, 5] rfl rfl rfl rfl rfl 0 rfl rfl rfl (fun _ => rfl) rfl rfl hl.1 (Nat.le_of_ble_eq_true rfl) dX7_readOne_71 ⟨Nat.zero_le _, Nat.zero_le _⟩ (fun r u H locs hw hP hD hS => ?_)
              obtain ⟨z_6, rfl⟩ : ∃ z, z = u := ⟨_, rfl⟩
              obtain ⟨rfl, hw⟩ := hw
              have hw_71 : z_6 = leE bt ty n1 := hw
              have hP : va_P D vwCl [(k0, .inr (6, [.ref k1, .ref k2, .ref k3, .int (nI tz), .int (nI ta), .int (nI n1), .int (nI z_6), .int (nI 0)])), (k1, .inl (cI, 301, .inl (rI tkk))), (k2, .inl (cI, 301, .inl (rI tkv))), (k3, .inl (cI, 301, .inl (rI tks))), (t0, .inr (5, [.ref t1, .int (nI ty)])), (t1, .inl (cI, 300, .inl (rI bt)))] H := hP
              have hD : va_D A [(k0, .inr (6, [.ref k1, .ref k2, .ref k3, .int (nI tz), .int (nI ta), .int (nI n1), .int (nI z_6), .int (nI 0)])), (k1, .inl (cI, 301, .inl (rI tkk))), (k2, .inl (cI, 301, .inl (rI tkv))), (k3, .inl (cI, 301, .inl (rI tks))), (t0, .inr (5, [.ref t1, .int (nI ty)])), (t1, .inl (cI, 300, .inl (rI bt)))] := hD
              exact hret _ (n1, z_6, 0) _ _ _ _ (rfl) (⟨by rw [hsk1, ckN, if_neg (show ¬ ty ≤ n1 by omega), if_pos b_66], hsk1.symm, by rw [hsk1, tkE, if_neg (show ¬ ty ≤ n1 by omega), if_pos b_66, hw_71], by rw [hsk1, cvN, lt_dg b_66]; rfl⟩) hP hD hS dX7_readOne_74
          ·
            have hend : ty ≤ n1 := (cA_9 hF).1 c_57
            refine lv_iconst (v := (0 : Int32)) hx hb dX7_readOne_60 (by decide) ?_
            exact hret _ (n1, n1, 0) _ _ _ _ (rfl) (⟨by rw [hsk1, ckN, if_pos hend]; rfl, hsk1.symm, by rw [hsk1, tkE, if_pos hend], by rw [hsk1, cvN, if_neg (fun q => absurd (of_decide_eq_true q).1 (by omega))]⟩) hP hD hS dX7_readOne_61
        ·
          have n_21 : (bt n1) = 32 := (nI_eq (show (bt n1) < 2147483648 by omega) (show 32 < 2147483648 by omega)).1 c_21
          refine lv_aload_n hx hb dX7_readOne_24 rfl (lv_at hl 0 rfl) ?_
          refine lv_dup hx hb dX7_readOne_25 rfl ?_
          refine va_get (D := D) (ci := 6) (v := .int (nI n1)) (C := RX7) (T := TX7) (N := 8) hx hb hts hin_X7 hown hK hP 0 rfl rfl 6 (by decide) w_0 (fun _ h9 => h9) rfl dX7_readOne_26 ?_
          refine lv_iconst (v := (1 : Int32)) hx hb dX7_readOne_29 (by decide) ?_
          refine lv_iadd hx hb dX7_readOne_30 ?_
          refine lv_topr (x' := nI (n1 + 1)) (nI_add n1 1) ?_
          refine va_put (D := D) (ci := 6) (v := .int (nI (n1 + 1))) (ty := .int) (C := RX7) (T := TX7) (N := 8) hx hb hts hin_X7 tyX7 tyX7_ok nmX7 hown hK hP hD hS 0 rfl rfl 6 (by decide) w_0 (fun _ h9 => h9) rfl (by decide +kernel) rfl rfl (Nat.le_of_ble_eq_true rfl) dX7_readOne_31 (fun H locs hP hD hS => ?_)
          have hP : va_P D vwCl [(k0, .inr (6, [.ref k1, .ref k2, .ref k3, .int (nI tz), .int (nI ta), .int (nI ts_), .int (nI (n1 + 1)), .int (nI 0)])), (k1, .inl (cI, 301, .inl (rI tkk))), (k2, .inl (cI, 301, .inl (rI tkv))), (k3, .inl (cI, 301, .inl (rI tks))), (t0, .inr (5, [.ref t1, .int (nI ty)])), (t1, .inl (cI, 300, .inl (rI bt)))] H := hP
          have hD : va_D A [(k0, .inr (6, [.ref k1, .ref k2, .ref k3, .int (nI tz), .int (nI ta), .int (nI ts_), .int (nI (n1 + 1)), .int (nI 0)])), (k1, .inl (cI, 301, .inl (rI tkk))), (k2, .inl (cI, 301, .inl (rI tkv))), (k3, .inl (cI, 301, .inl (rI tks))), (t0, .inr (5, [.ref t1, .int (nI ty)])), (t1, .inl (cI, 300, .inl (rI bt)))] := hD
          refine lv_goto (tgt := 0) hx hb dX7_readOne_34 (by decide) ?_
          exact ih_0 (n1 + 1) (by omega) ((runE_go (P := whB bt ty) (decide_eq_true ⟨n_8, n_21⟩) n_8).symm.trans hsk) (by omega) _ _ hP hD hS _ (lv_sub hl [0, 1] rfl)
  exact L_0 (Nat.succ (ty - nx)) nx (h1x) (rfl) (Nat.lt_succ_self _) _ _ hP hD hS _ (lv_sub hl [0, 1] rfl)
