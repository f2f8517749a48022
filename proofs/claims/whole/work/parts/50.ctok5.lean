set_option maxHeartbeats 4000000 in
set_option maxRecDepth 100000 in
theorem c_X7_split (l : Launch) (D : va_G) (cI cZ cO : ClassId) (sz : Nat) (gR : Nat) (gD : Nat) (gK : Nat → Nat) (gV : Nat → Nat) (k0 : Nat) (k1 : Nat) (k2 : Nat) (k3 : Nat) (tz : Nat) (ta : Nat) (ts_ : Nat) (tn_ : Nat) (tv_ : Nat) (tkk : Nat → Nat) (tkv : Nat → Nat) (tks : Nat → Nat) (t0 : Nat) (t1 : Nat) (ty : Nat) (bt : Nat → Nat) (hty : ty ≤ 300) (hF : fOK bt ty) : xMv l yX7_split wsX7_split (7) (151) D (TY cI cZ cO) (xGc gR gD gK gV) [.ref k0, .ref t0] [(k0, .inr (6, [.ref k1, .ref k2, .ref k3, .int (nI tz), .int (nI ta), .int (nI ts_), .int (nI tn_), .int (nI tv_)])), (k1, .inl (cI, 301, .inl (rI tkk))), (k2, .inl (cI, 301, .inl (rI tkv))), (k3, .inl (cI, 301, .inl (rI tks))), (t0, .inr (5, [.ref t1, .int (nI ty)])), (t1, .inl (cI, 300, .inl (rI bt)))] sz (fun (u : Nat × Nat × Nat × Nat × (Nat → Nat) × (Nat → Nat) × (Nat → Nat)) => (((u.1) ≤ 301 ∧ 1 ≤ (u.1)) ∧ tokR bt ty (u.1) (u.2.2.2.2.1) (u.2.2.2.2.2.1) (u.2.2.2.2.2.2) ∧ (∀ j, j + 1 < (u.1) → ¬ ckN bt ty (stP bt ty j) = 0) ∧ (ckN bt ty (stP bt ty ((u.1) - 1)) = 0 ∨ (u.1) = 301))) (fun (u : Nat × Nat × Nat × Nat × (Nat → Nat) × (Nat → Nat) × (Nat → Nat)) => [(k0, .inr (6, [.ref k1, .ref k2, .ref k3, .int (nI (u.1)), .int (nI 0), .int (nI (u.2.1)), .int (nI (u.2.2.1)), .int (nI (u.2.2.2.1))])), (k1, .inl (cI, 301, .inl (rI (u.2.2.2.2.1)))), (k2, .inl (cI, 301, .inl (rI (u.2.2.2.2.2.1)))), (k3, .inl (cI, 301, .inl (rI (u.2.2.2.2.2.2)))), (t0, .inr (5, [.ref t1, .int (nI ty)])), (t1, .inl (cI, 300, .inl (rI bt)))]) := by
  refine xMv.of (cc := cX7_split) (maxL := 3) (by decide +kernel) rfl (Nat.le_of_ble_eq_true rfl) ?_
  intro p e s m below meth c A Q H hx hb hml hown hts hA hP hD hK hS hG hret ls hl
  have hown : s.vm.findClass RX7 = some m.cls := hown
  have hP : va_P D vwCl [(k0, .inr (6, [.ref k1, .ref k2, .ref k3, .int (nI tz), .int (nI ta), .int (nI ts_), .int (nI tn_), .int (nI tv_)])), (k1, .inl (cI, 301, .inl (rI tkk))), (k2, .inl (cI, 301, .inl (rI tkv))), (k3, .inl (cI, 301, .inl (rI tks))), (t0, .inr (5, [.ref t1, .int (nI ty)])), (t1, .inl (cI, 300, .inl (rI bt)))] H := hP
  have hD : va_D A [(k0, .inr (6, [.ref k1, .ref k2, .ref k3, .int (nI tz), .int (nI ta), .int (nI ts_), .int (nI tn_), .int (nI tv_)])), (k1, .inl (cI, 301, .inl (rI tkk))), (k2, .inl (cI, 301, .inl (rI tkv))), (k3, .inl (cI, 301, .inl (rI tks))), (t0, .inr (5, [.ref t1, .int (nI ty)])), (t1, .inl (cI, 300, .inl (rI bt)))] := hD
  have hl : lv_has ls 3 [(0, .ref k0), (1, .ref t0)] := hl
  have w_0 := hts (.fieldLink RX7 21 "UnlikeRoofs$Tokens" "size" "I") (List.mem_of_getElem? (i := 1) (by rfl))
  have w_1 := hts (.fieldLink RX7 25 "UnlikeRoofs$Tokens" "at" "I") (List.mem_of_getElem? (i := 2) (by rfl))
  have w_2 := hts (.fieldLink RX7 28 "UnlikeRoofs$Tokens" "next" "I") (List.mem_of_getElem? (i := 3) (by rfl))
  have w_3 := hts (.fieldLink RX7 9 "UnlikeRoofs$Tokens" "kinds" "[I") (List.mem_of_getElem? (i := 4) (by rfl))
  have w_4 := hts (.fieldLink RX7 31 "UnlikeRoofs$Tokens" "value" "I") (List.mem_of_getElem? (i := 5) (by rfl))
  have w_5 := hts (.fieldLink RX7 15 "UnlikeRoofs$Tokens" "values" "[I") (List.mem_of_getElem? (i := 6) (by rfl))
  have w_6 := hts (.fieldLink RX7 18 "UnlikeRoofs$Tokens" "starts" "[I") (List.mem_of_getElem? (i := 7) (by rfl))
  have w_7 := hts (.fieldLink RX7 38 "UnlikeRoofs$Tokens" "start" "I") (List.mem_of_getElem? (i := 8) (by rfl))
  have hin_X7 : ∀ w ∈ wsX70, w ∈ wsX7_split := fun _ h => List.mem_cons_of_mem _ (List.mem_append_left _ (List.mem_append_right _ h))
  have _h0 : True := trivial
  refine lv_aload_n hx hb dX7_split_0 rfl (lv_at hl 0 rfl) ?_
  refine lv_iconst (v := (0 : Int32)) hx hb dX7_split_1 (by decide) ?_
  refine va_put (D := D) (ci := 6) (v := .int (0 : Int32)) (ty := .int) (C := RX7) (T := TX7) (N := 8) hx hb hts hin_X7 tyX7 tyX7_ok nmX7 hown hK hP hD hS 0 rfl rfl 3 (by decide) w_0 (fun _ h9 => h9) rfl (by decide +kernel) rfl rfl (Nat.le_of_ble_eq_true rfl) dX7_split_2 (fun H locs hP hD hS => ?_)
  have hP : va_P D vwCl [(k0, .inr (6, [.ref k1, .ref k2, .ref k3, .int (0 : Int32), .int (nI ta), .int (nI ts_), .int (nI tn_), .int (nI tv_)])), (k1, .inl (cI, 301, .inl (rI tkk))), (k2, .inl (cI, 301, .inl (rI tkv))), (k3, .inl (cI, 301, .inl (rI tks))), (t0, .inr (5, [.ref t1, .int (nI ty)])), (t1, .inl (cI, 300, .inl (rI bt)))] H := hP
  have hD : va_D A [(k0, .inr (6, [.ref k1, .ref k2, .ref k3, .int (0 : Int32), .int (nI ta), .int (nI ts_), .int (nI tn_), .int (nI tv_)])), (k1, .inl (cI, 301, .inl (rI tkk))), (k2, .inl (cI, 301, .inl (rI tkv))), (k3, .inl (cI, 301, .inl (rI tks))), (t0, .inr (5, [.ref t1, .int (nI ty)])), (t1, .inl (cI, 300, .inl (rI bt)))] := hD
  refine lv_aload_n hx hb dX7_split_5 rfl (lv_at hl 0 rfl) ?_
  refine lv_iconst (v := (0 : Int32)) hx hb dX7_split_6 (by decide) ?_
  refine va_put (D := D) (ci := 6) (v := .int (0 : Int32)) (ty := .int) (C := RX7) (T := TX7) (N := 8) hx hb hts hin_X7 tyX7 tyX7_ok nmX7 hown hK hP hD hS 0 rfl rfl 4 (by decide) w_1 (fun _ h9 => h9) rfl (by decide +kernel) rfl rfl (Nat.le_of_ble_eq_true rfl) dX7_split_7 (fun H locs hP hD hS => ?_)
  have hP : va_P D vwCl [(k0, .inr (6, [.ref k1, .ref k2, .ref k3, .int (0 : Int32), .int (0 : Int32), .int (nI ts_), .int (nI tn_), .int (nI tv_)])), (k1, .inl (cI, 301, .inl (rI tkk))), (k2, .inl (cI, 301, .inl (rI tkv))), (k3, .inl (cI, 301, .inl (rI tks))), (t0, .inr (5, [.ref t1, .int (nI ty)])), (t1, .inl (cI, 300, .inl (rI bt)))] H := hP
  have hD : va_D A [(k0, .inr (6, [.ref k1, .ref k2, .ref k3, .int (0 : Int32), .int (0 : Int32), .int (nI ts_), .int (nI tn_), .int (nI tv_)])), (k1, .inl (cI, 301, .inl (rI tkk))), (k2, .inl (cI, 301, .inl (rI tkv))), (k3, .inl (cI, 301, .inl (rI tks))), (t0, .inr (5, [.ref t1, .int (nI ty)])), (t1, .inl (cI, 300, .inl (rI bt)))] := hD
  refine lv_aload_n hx hb dX7_split_10 rfl (lv_at hl 0 rfl) ?_
  refine lv_iconst (v := (0 : Int32)) hx hb dX7_split_11 (by decide) ?_
  refine va_put (D := D) (ci := 6) (v := .int (0 : Int32)) (ty := .int) (C := RX7) (T := TX7) (N := 8) hx hb hts hin_X7 tyX7 tyX7_ok nmX7 hown hK hP hD hS 0 rfl rfl 6 (by decide) w_2 (fun _ h9 => h9) rfl (by decide +kernel) rfl rfl (Nat.le_of_ble_eq_true rfl) dX7_split_12 (fun H locs hP hD hS => ?_)
  have hP : va_P D vwCl [(k0, .inr (6, [.ref k1, .ref k2, .ref k3, .int (0 : Int32), .int (0 : Int32), .int (nI ts_), .int (0 : Int32), .int (nI tv_)])), (k1, .inl (cI, 301, .inl (rI tkk))), (k2, .inl (cI, 301, .inl (rI tkv))), (k3, .inl (cI, 301, .inl (rI tks))), (t0, .inr (5, [.ref t1, .int (nI ty)])), (t1, .inl (cI, 300, .inl (rI bt)))] H := hP
  have hD : va_D A [(k0, .inr (6, [.ref k1, .ref k2, .ref k3, .int (0 : Int32), .int (0 : Int32), .int (nI ts_), .int (0 : Int32), .int (nI tv_)])), (k1, .inl (cI, 301, .inl (rI tkk))), (k2, .inl (cI, 301, .inl (rI tkv))), (k3, .inl (cI, 301, .inl (rI tks))), (t0, .inr (5, [.ref t1, .int (nI ty)])), (t1, .inl (cI, 300, .inl (rI bt)))] := hD
  refine lv_iconst (v := (1 : Int32)) hx hb dX7_split_15 (by decide) ?_
  refine lv_istore_n (lv' := [(2, .int (1 : Int32)), (0, .ref k0), (1, .ref t0)]) hx hb dX7_split_16 rfl hl (by decide) rfl (fun ls hl => ?_)
  have L_17 : ∀ (fuel : Nat) (sz_ : Nat) (tsv : Nat) (tnv : Nat) (tvv : Nat) (kd : Nat) (ka : Nat → Nat) (kb : Nat → Nat) (kc : Nat → Nat), (sz_ ≤ 301) → (tnv ≤ ty) → (skN bt ty tnv = stP bt ty sz_) → (tokR bt ty sz_ ka kb kc) → ((sz_ = 0 ∧ kd = 1) ∨ (1 ≤ sz_ ∧ kd = ckN bt ty (stP bt ty (sz_ - 1)))) → (kd ≤ 13) → (∀ j, j + 1 < sz_ → ¬ ckN bt ty (stP bt ty j) = 0) → (301 - sz_) < fuel → ∀ (H : Heap) (locs : List Loc), va_P D vwCl [(k0, .inr (6, [.ref k1, .ref k2, .ref k3, .int (nI sz_), .int (nI 0), .int (nI tsv), .int (nI tnv), .int (nI tvv)])), (k1, .inl (cI, 301, .inl (rI ka))), (k2, .inl (cI, 301, .inl (rI kb))), (k3, .inl (cI, 301, .inl (rI kc))), (t0, .inr (5, [.ref t1, .int (nI ty)])), (t1, .inl (cI, 300, .inl (rI bt)))] H → va_D A [(k0, .inr (6, [.ref k1, .ref k2, .ref k3, .int (nI sz_), .int (nI 0), .int (nI tsv), .int (nI tnv), .int (nI tvv)])), (k1, .inl (cI, 301, .inl (rI ka))), (k2, .inl (cI, 301, .inl (rI kb))), (k3, .inl (cI, 301, .inl (rI kc))), (t0, .inr (5, [.ref t1, .int (nI ty)])), (t1, .inl (cI, 300, .inl (rI bt)))] → va_S A s.heap H locs → ∀ ls : Array Slot, lv_has ls 3 [(2, .int (nI kd)), (0, .ref k0), (1, .ref t0)] → W p l e (xRm 7 151) s m ([.ref k0, .ref t0] : List Value).toArray below meth c H locs 0 0 Q (F0 m 17 ls []) := by
    intro fuel
    induction fuel with
    | zero =>
      intro sz_ tsv tnv tvv kd ka kb kc hsz htn hnx hrow hkd hkl hne hm
      exact absurd hm (Nat.not_lt_zero _)
    | succ fuel ih_17 =>
      intro sz_ tsv tnv tvv kd ka kb kc hsz htn hnx hrow hkd hkl hne hm_17 H locs hP hD hS ls hl
      refine lv_aload_n hx hb dX7_split_17 rfl (lv_at hl 1 rfl) ?_
      refine va_get (D := D) (ci := 6) (v := .int (nI sz_)) (C := RX7) (T := TX7) (N := 8) hx hb hts hin_X7 hown hK hP 0 rfl rfl 3 (by decide) w_0 (fun _ h9 => h9) rfl dX7_split_18 ?_
      refine lv_aload_n hx hb dX7_split_21 rfl (lv_at hl 1 rfl) ?_
      refine va_get (D := D) (ci := 6) (v := .ref k1) (C := RX7) (T := TX7) (N := 8) hx hb hts hin_X7 hown hK hP 0 rfl rfl 0 (by decide) w_3 (fun _ h9 => h9) rfl dX7_split_22 ?_
      refine va_alen (v := (301 : Int32)) hx hb hK hP 1 0 rfl rfl rfl dX7_split_25 ?_
      refine lv_icmp_ge (tgt := 93) hx hb dX7_split_26 (by decide) (fun c_26 => ?_) (fun c_26 => ?_)
      ·
        have n_26 : 301 ≤ sz_ := (nI_leI (show 301 < 2147483648 by omega) (show sz_ < 2147483648 by omega)).1 c_26
        exact hret (sz_, tsv, tnv, tvv, ka, kb, kc) _ _ _ _ (⟨⟨by omega, by omega⟩, hrow, hne, Or.inr (by omega)⟩) hP hD hS dX7_split_93
      ·
        have n_26 : sz_ < 301 := Nat.lt_of_not_le (fun q => c_26 ((nI_leI (show 301 < 2147483648 by omega) (show sz_ < 2147483648 by omega)).2 q))
        refine lv_iload_n hx hb dX7_split_29 rfl (lv_at hl 0 rfl) ?_
        refine lv_if_eq (tgt := 93) hx hb dX7_split_30 (by decide) (fun c_30 => ?_) (fun c_30 => ?_)
        ·
          have n_30 : kd = 0 := (nI_eq (show kd < 2147483648 by omega) (show 0 < 2147483648 by omega)).1 c_30
          exact hret (sz_, tsv, tnv, tvv, ka, kb, kc) _ _ _ _ (⟨⟨by omega, by omega⟩, hrow, hne, Or.inl (by rcases hkd with ⟨q1, q2⟩ | ⟨q1, q2⟩; omega; rw [← q2]; exact n_30)⟩) hP hD hS dX7_split_93
        ·
          have n_30 : ¬ kd = 0 := fun q => c_30 (congrArg nI q)
          refine lv_aload_n hx hb dX7_split_33 rfl (lv_at hl 1 rfl) ?_
          refine lv_iconst (v := (0 : Int32)) hx hb dX7_split_34 (by decide) ?_
          refine va_put (D := D) (ci := 6) (v := .int (0 : Int32)) (ty := .int) (C := RX7) (T := TX7) (N := 8) hx hb hts hin_X7 tyX7 tyX7_ok nmX7 hown hK hP hD hS 0 rfl rfl 7 (by decide) w_4 (fun _ h9 => h9) rfl (by decide +kernel) rfl rfl (Nat.le_of_ble_eq_true rfl) dX7_split_35 (fun H locs hP hD hS => ?_)
          have hP : va_P D vwCl [(k0, .inr (6, [.ref k1, .ref k2, .ref k3, .int (nI sz_), .int (nI 0), .int (nI tsv), .int (nI tnv), .int (0 : Int32)])), (k1, .inl (cI, 301, .inl (rI ka))), (k2, .inl (cI, 301, .inl (rI kb))), (k3, .inl (cI, 301, .inl (rI kc))), (t0, .inr (5, [.ref t1, .int (nI ty)])), (t1, .inl (cI, 300, .inl (rI bt)))] H := hP
          have hD : va_D A [(k0, .inr (6, [.ref k1, .ref k2, .ref k3, .int (nI sz_), .int (nI 0), .int (nI tsv), .int (nI tnv), .int (0 : Int32)])), (k1, .inl (cI, 301, .inl (rI ka))), (k2, .inl (cI, 301, .inl (rI kb))), (k3, .inl (cI, 301, .inl (rI kc))), (t0, .inr (5, [.ref t1, .int (nI ty)])), (t1, .inl (cI, 300, .inl (rI bt)))] := hD
          refine lv_aload_n hx hb dX7_split_38 rfl (lv_at hl 1 rfl) ?_
          refine lv_aload_n hx hb dX7_split_39 rfl (lv_at hl 2 rfl) ?_
          refine xcV_i (As := [.ref t0]) (rest := []) (wc := [(k0, .inr (6, [.ref k1, .ref k2, .ref k3, .int (nI sz_), .int (nI 0), .int (nI tsv), .int (nI tnv), .int (nI 0)])), (k1, .inl (cI, 301, .inl (rI ka))), (k2, .inl (cI, 301, .inl (rI kb))), (k3, .inl (cI, 301, .inl (rI kc))), (t0, .inr (5, [.ref t1, .int (nI ty)])), (t1, .inl (cI, 300, .inl (rI bt)))]) (wr := []) (w3 := fun (u : Nat × Nat × Nat) => [(k0, .inr (6, [.ref k1, .ref k2, .ref k3, .int (nI sz_), .int (nI 0), .int (nI (u.1)), .int (nI (u.2.1)), .int (nI (u.2.2))])), (k1, .inl (cI, 301, .inl (rI ka))), (k2, .inl (cI, 301, .inl (rI kb))), (k3, .inl (cI, 301, .inl (rI kc))), (t0, .inr (5, [.ref t1, .int (nI ty)])), (t1, .inl (cI, 300, .inl (rI bt)))]) ⟨hx, hb, hml, hown, hts⟩ (c_X7_readOne l D cI cZ cO H.size gR gD gK gV k0 k1 k2 k3 sz_ 0 tsv ka kb kc tnv t0 t1 ty bt (by first | assumption | omega | rfl) (by first | assumption | omega | rfl) (htn)) (cwV 1 hts gX7_split_X7_readOne rfl rfl rfl (by decide +kernel) ⟨Nat.le_of_ble_eq_true rfl, Nat.le_of_ble_eq_true rfl⟩) (xGdc gR gD gK gV) (xGdc gR gD gK gV) (fun _ _ _ h => h) hG hP hD hK hS hA [0, 1, 2, 3, 4, 5] [] [0, 1, 2, 3, 4, 5] rfl rfl rfl rfl rfl 0 rfl rfl rfl (fun _ => rfl) rfl rfl hl.1 (Nat.le_of_ble_eq_true rfl) dX7_split_40 ⟨Nat.zero_le _, Nat.zero_le _⟩ (fun r u H locs hw hP hD hS => ?_)
          obtain ⟨z_1, z_2, z_3⟩ := u
          obtain ⟨rfl, hw⟩ := hw
          have hw_40 : z_1 = skN bt ty tnv ∧ z_2 = tkE bt ty (skN bt ty tnv) ∧ z_3 = cvN bt ty (skN bt ty tnv) := hw
          have hP : va_P D vwCl [(k0, .inr (6, [.ref k1, .ref k2, .ref k3, .int (nI sz_), .int (nI 0), .int (nI z_1), .int (nI z_2), .int (nI z_3)])), (k1, .inl (cI, 301, .inl (rI ka))), (k2, .inl (cI, 301, .inl (rI kb))), (k3, .inl (cI, 301, .inl (rI kc))), (t0, .inr (5, [.ref t1, .int (nI ty)])), (t1, .inl (cI, 300, .inl (rI bt)))] H := hP
          have hD : va_D A [(k0, .inr (6, [.ref k1, .ref k2, .ref k3, .int (nI sz_), .int (nI 0), .int (nI z_1), .int (nI z_2), .int (nI z_3)])), (k1, .inl (cI, 301, .inl (rI ka))), (k2, .inl (cI, 301, .inl (rI kb))), (k3, .inl (cI, 301, .inl (rI kc))), (t0, .inr (5, [.ref t1, .int (nI ty)])), (t1, .inl (cI, 300, .inl (rI bt)))] := hD
          refine lv_istore_n (lv' := [(2, .int (nI (ckN bt ty (skN bt ty tnv)))), (0, .ref k0), (1, .ref t0)]) hx hb dX7_split_43 rfl hl (by decide) rfl (fun ls hl => ?_)
          refine lv_aload_n hx hb dX7_split_44 rfl (lv_at hl 1 rfl) ?_
          refine va_get (D := D) (ci := 6) (v := .ref k1) (C := RX7) (T := TX7) (N := 8) hx hb hts hin_X7 hown hK hP 0 rfl rfl 0 (by decide) w_3 (fun _ h9 => h9) rfl dX7_split_45 ?_
          refine lv_aload_n hx hb dX7_split_48 rfl (lv_at hl 1 rfl) ?_
          refine va_get (D := D) (ci := 6) (v := .int (nI sz_)) (C := RX7) (T := TX7) (N := 8) hx hb hts hin_X7 hown hK hP 0 rfl rfl 3 (by decide) w_0 (fun _ h9 => h9) rfl dX7_split_49 ?_
          refine lv_iload_n hx hb dX7_split_52 rfl (lv_at hl 0 rfl) ?_
          refine x_iastN hx hb hK hP hD hS 1 0 rfl rfl (j := sz_) (by omega) (by decide) dX7_split_53 (fun H locs hP hD hS => ?_)
          have hP : va_P D vwCl [(k0, .inr (6, [.ref k1, .ref k2, .ref k3, .int (nI sz_), .int (nI 0), .int (nI z_1), .int (nI z_2), .int (nI z_3)])), (k1, .inl (cI, 301, .inl (rI (updN ka sz_ (ckN bt ty (skN bt ty tnv)))))), (k2, .inl (cI, 301, .inl (rI kb))), (k3, .inl (cI, 301, .inl (rI kc))), (t0, .inr (5, [.ref t1, .int (nI ty)])), (t1, .inl (cI, 300, .inl (rI bt)))] H := hP
          have hD : va_D A [(k0, .inr (6, [.ref k1, .ref k2, .ref k3, .int (nI sz_), .int (nI 0), .int (nI z_1), .int (nI z_2), .int (nI z_3)])), (k1, .inl (cI, 301, .inl (rI (updN ka sz_ (ckN bt ty (skN bt ty tnv)))))), (k2, .inl (cI, 301, .inl (rI kb))), (k3, .inl (cI, 301, .inl (rI kc))), (t0, .inr (5, [.ref t1, .int (nI ty)])), (t1, .inl (cI, 300, .inl (rI bt)))] := hD
          refine lv_aload_n hx hb dX7_split_54 rfl (lv_at hl 1 rfl) ?_
          refine va_get (D := D) (ci := 6) (v := .ref k2) (C := RX7) (T := TX7) (N := 8) hx hb hts hin_X7 hown hK hP 0 rfl rfl 1 (by decide) w_5 (fun _ h9 => h9) rfl dX7_split_55 ?_
          refine lv_aload_n hx hb dX7_split_58 rfl (lv_at hl 1 rfl) ?_
          refine va_get (D := D) (ci := 6) (v := .int (nI sz_)) (C := RX7) (T := TX7) (N := 8) hx hb hts hin_X7 hown hK hP 0 rfl rfl 3 (by decide) w_0 (fun _ h9 => h9) rfl dX7_split_59 ?_
          refine lv_aload_n hx hb dX7_split_62 rfl (lv_at hl 1 rfl) ?_
          refine va_get (D := D) (ci := 6) (v := .int (nI z_3)) (C := RX7) (T := TX7) (N := 8) hx hb hts hin_X7 hown hK hP 0 rfl rfl 7 (by decide) w_4 (fun _ h9 => h9) rfl dX7_split_63 ?_
          refine x_iastN hx hb hK hP hD hS 2 0 rfl rfl (j := sz_) (by omega) (by decide) dX7_split_66 (fun H locs hP hD hS => ?_)
          have hP : va_P D vwCl [(k0, .inr (6, [.ref k1, .ref k2, .ref k3, .int (nI sz_), .int (nI 0), .int (nI z_1), .int (nI z_2), .int (nI z_3)])), (k1, .inl (cI, 301, .inl (rI (updN ka sz_ (ckN bt ty (skN bt ty tnv)))))), (k2, .inl (cI, 301, .inl (rI (updN kb sz_ z_3)))), (k3, .inl (cI, 301, .inl (rI kc))), (t0, .inr (5, [.ref t1, .int (nI ty)])), (t1, .inl (cI, 300, .inl (rI bt)))] H := hP
          have hD : va_D A [(k0, .inr (6, [.ref k1, .ref k2, .ref k3, .int (nI sz_), .int (nI 0), .int (nI z_1), .int (nI z_2), .int (nI z_3)])), (k1, .inl (cI, 301, .inl (rI (updN ka sz_ (ckN bt ty (skN bt ty tnv)))))), (k2, .inl (cI, 301, .inl (rI (updN kb sz_ z_3)))), (k3, .inl (cI, 301, .inl (rI kc))), (t0, .inr (5, [.ref t1, .int (nI ty)])), (t1, .inl (cI, 300, .inl (rI bt)))] := hD
          refine lv_aload_n hx hb dX7_split_67 rfl (lv_at hl 1 rfl) ?_
          refine va_get (D := D) (ci := 6) (v := .ref k3) (C := RX7) (T := TX7) (N := 8) hx hb hts hin_X7 hown hK hP 0 rfl rfl 2 (by decide) w_6 (fun _ h9 => h9) rfl dX7_split_68 ?_
          refine lv_aload_n hx hb dX7_split_71 rfl (lv_at hl 1 rfl) ?_
          refine va_get (D := D) (ci := 6) (v := .int (nI sz_)) (C := RX7) (T := TX7) (N := 8) hx hb hts hin_X7 hown hK hP 0 rfl rfl 3 (by decide) w_0 (fun _ h9 => h9) rfl dX7_split_72 ?_
          refine lv_aload_n hx hb dX7_split_75 rfl (lv_at hl 1 rfl) ?_
          refine va_get (D := D) (ci := 6) (v := .int (nI z_1)) (C := RX7) (T := TX7) (N := 8) hx hb hts hin_X7 hown hK hP 0 rfl rfl 5 (by decide) w_7 (fun _ h9 => h9) rfl dX7_split_76 ?_
          refine x_iastN hx hb hK hP hD hS 3 0 rfl rfl (j := sz_) (by omega) (by decide) dX7_split_79 (fun H locs hP hD hS => ?_)
          have hP : va_P D vwCl [(k0, .inr (6, [.ref k1, .ref k2, .ref k3, .int (nI sz_), .int (nI 0), .int (nI z_1), .int (nI z_2), .int (nI z_3)])), (k1, .inl (cI, 301, .inl (rI (updN ka sz_ (ckN bt ty (skN bt ty tnv)))))), (k2, .inl (cI, 301, .inl (rI (updN kb sz_ z_3)))), (k3, .inl (cI, 301, .inl (rI (updN kc sz_ z_1)))), (t0, .inr (5, [.ref t1, .int (nI ty)])), (t1, .inl (cI, 300, .inl (rI bt)))] H := hP
          have hD : va_D A [(k0, .inr (6, [.ref k1, .ref k2, .ref k3, .int (nI sz_), .int (nI 0), .int (nI z_1), .int (nI z_2), .int (nI z_3)])), (k1, .inl (cI, 301, .inl (rI (updN ka sz_ (ckN bt ty (skN bt ty tnv)))))), (k2, .inl (cI, 301, .inl (rI (updN kb sz_ z_3)))), (k3, .inl (cI, 301, .inl (rI (updN kc sz_ z_1)))), (t0, .inr (5, [.ref t1, .int (nI ty)])), (t1, .inl (cI, 300, .inl (rI bt)))] := hD
          refine lv_aload_n hx hb dX7_split_80 rfl (lv_at hl 1 rfl) ?_
          refine lv_dup hx hb dX7_split_81 rfl ?_
          refine va_get (D := D) (ci := 6) (v := .int (nI sz_)) (C := RX7) (T := TX7) (N := 8) hx hb hts hin_X7 hown hK hP 0 rfl rfl 3 (by decide) w_0 (fun _ h9 => h9) rfl dX7_split_82 ?_
          refine lv_iconst (v := (1 : Int32)) hx hb dX7_split_85 (by decide) ?_
          refine lv_iadd hx hb dX7_split_86 ?_
          refine lv_topr (x' := nI (sz_ + 1)) (nI_add sz_ 1) ?_
          refine va_put (D := D) (ci := 6) (v := .int (nI (sz_ + 1))) (ty := .int) (C := RX7) (T := TX7) (N := 8) hx hb hts hin_X7 tyX7 tyX7_ok nmX7 hown hK hP hD hS 0 rfl rfl 3 (by decide) w_0 (fun _ h9 => h9) rfl (by decide +kernel) rfl rfl (Nat.le_of_ble_eq_true rfl) dX7_split_87 (fun H locs hP hD hS => ?_)
          have hP : va_P D vwCl [(k0, .inr (6, [.ref k1, .ref k2, .ref k3, .int (nI (sz_ + 1)), .int (nI 0), .int (nI z_1), .int (nI z_2), .int (nI z_3)])), (k1, .inl (cI, 301, .inl (rI (updN ka sz_ (ckN bt ty (skN bt ty tnv)))))), (k2, .inl (cI, 301, .inl (rI (updN kb sz_ z_3)))), (k3, .inl (cI, 301, .inl (rI (updN kc sz_ z_1)))), (t0, .inr (5, [.ref t1, .int (nI ty)])), (t1, .inl (cI, 300, .inl (rI bt)))] H := hP
          have hD : va_D A [(k0, .inr (6, [.ref k1, .ref k2, .ref k3, .int (nI (sz_ + 1)), .int (nI 0), .int (nI z_1), .int (nI z_2), .int (nI z_3)])), (k1, .inl (cI, 301, .inl (rI (updN ka sz_ (ckN bt ty (skN bt ty tnv)))))), (k2, .inl (cI, 301, .inl (rI (updN kb sz_ z_3)))), (k3, .inl (cI, 301, .inl (rI (updN kc sz_ z_1)))), (t0, .inr (5, [.ref t1, .int (nI ty)])), (t1, .inl (cI, 300, .inl (rI bt)))] := hD
          refine lv_goto (tgt := 17) hx hb dX7_split_90 (by decide) ?_
          exact ih_17 (sz_ + 1) z_1 z_2 z_3 (ckN bt ty (skN bt ty tnv)) (updN ka sz_ (ckN bt ty (skN bt ty tnv))) (updN kb sz_ z_3) (updN kc sz_ z_1) (by omega) (by rw [hw_40.2.1]; exact tkE_le (skN_le htn).2) (by rw [hw_40.2.1, hnx]; rfl) (tok_up hrow (by rw [hnx]) (by rw [hw_40.2.2, hnx]) (by rw [hw_40.1, hnx])) (Or.inr ⟨by omega, by rw [hnx, Nat.add_sub_cancel]⟩) (ckN_le) (fun j hj => by rcases Nat.lt_or_ge (j + 1) sz_ with z | z; exact hne j z; rcases hkd with ⟨q1, q2⟩ | ⟨q1, q2⟩; omega; rw [show j = sz_ - 1 by omega, ← q2]; exact n_30) (by omega) _ _ hP hD hS _ (lv_sub hl [0, 1, 2] rfl)
  exact L_17 (Nat.succ (301 - 0)) 0 ts_ 0 tv_ 1 tkk tkv tks (by decide) (Nat.zero_le _) (rfl) (fun _ q => absurd q (Nat.not_lt_zero _)) (Or.inl ⟨rfl, rfl⟩) (by decide) (fun _ q => absurd q (Nat.not_lt_zero _)) (Nat.lt_succ_self _) _ _ hP hD hS _ (lv_sub hl [0, 1, 2] rfl)
