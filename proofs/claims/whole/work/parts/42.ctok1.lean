set_option maxHeartbeats 4000000 in
set_option maxRecDepth 100000 in
theorem c_X7_isLetter (l : Launch) (D : va_G) (cI cZ cO : ClassId) (sz : Nat) (gR : Nat) (gD : Nat) (gK : Nat → Nat) (gV : Nat → Nat) (b : Int32)  : xMi l yX7_isLetter wsX7_isLetter (0) (0) D (TY cI cZ cO) (xGc gR gD gK gV) [.int b] [] sz (fun (rv_ : Int32) (u : Unit) => rv_ = (bb (inr b 97 122)) ∧ (True)) (fun (u : Unit) => []) := by
  refine xMi.of (cc := cX7_isLetter) (maxL := 1) (by decide +kernel) rfl (Nat.le_of_ble_eq_true rfl) ?_
  intro p e s m below meth c A Q H hx hb hml hown hts hA hP hD hK hS hG hret ls hl
  have hown : s.vm.findClass RX7 = some m.cls := hown
  have hP : va_P D vwCl [] H := hP
  have hD : va_D A [] := hD
  have hl : lv_has ls 1 [(0, .int b)] := hl
  have _h0 : True := trivial
  refine lv_iload_n hx hb dX7_isLetter_0 rfl (lv_at hl 0 rfl) ?_
  refine lv_bipush (v := (97 : Int32)) hx hb dX7_isLetter_1 (by decide) ?_
  refine lv_icmp_lt (tgt := 16) hx hb dX7_isLetter_3 (by decide) (fun c_3 => ?_) (fun c_3 => ?_)
  ·
    refine lv_iconst (v := (0 : Int32)) hx hb dX7_isLetter_16 (by decide) ?_
    exact hret _ () _ _ _ _ (rfl) (⟨by first | exact bbT ⟨Int32.not_lt.1 (by assumption), Int32.not_lt.1 (by assumption)⟩ | exact bbF (fun q => absurd q.1 (Int32.not_le.2 (by assumption))) | exact bbF (fun q => absurd q.2 (Int32.not_le.2 (by assumption))), trivial⟩) hP hD hS dX7_isLetter_17
  ·
    refine lv_iload_n hx hb dX7_isLetter_6 rfl (lv_at hl 0 rfl) ?_
    refine lv_bipush (v := (122 : Int32)) hx hb dX7_isLetter_7 (by decide) ?_
    refine lv_icmp_gt (tgt := 16) hx hb dX7_isLetter_9 (by decide) (fun c_9 => ?_) (fun c_9 => ?_)
    ·
      refine lv_iconst (v := (0 : Int32)) hx hb dX7_isLetter_16 (by decide) ?_
      exact hret _ () _ _ _ _ (rfl) (⟨by first | exact bbT ⟨Int32.not_lt.1 (by assumption), Int32.not_lt.1 (by assumption)⟩ | exact bbF (fun q => absurd q.1 (Int32.not_le.2 (by assumption))) | exact bbF (fun q => absurd q.2 (Int32.not_le.2 (by assumption))), trivial⟩) hP hD hS dX7_isLetter_17
    ·
      refine lv_iconst (v := (1 : Int32)) hx hb dX7_isLetter_12 (by decide) ?_
      refine lv_goto (tgt := 17) hx hb dX7_isLetter_13 (by decide) ?_
      exact hret _ () _ _ _ _ (rfl) (⟨by first | exact bbT ⟨Int32.not_lt.1 (by assumption), Int32.not_lt.1 (by assumption)⟩ | exact bbF (fun q => absurd q.1 (Int32.not_le.2 (by assumption))) | exact bbF (fun q => absurd q.2 (Int32.not_le.2 (by assumption))), trivial⟩) hP hD hS dX7_isLetter_17

set_option maxHeartbeats 4000000 in
set_option maxRecDepth 100000 in
theorem c_X7_isDigit (l : Launch) (D : va_G) (cI cZ cO : ClassId) (sz : Nat) (gR : Nat) (gD : Nat) (gK : Nat → Nat) (gV : Nat → Nat) (b : Int32)  : xMi l yX7_isDigit wsX7_isDigit (0) (0) D (TY cI cZ cO) (xGc gR gD gK gV) [.int b] [] sz (fun (rv_ : Int32) (u : Unit) => rv_ = (bb (inr b 48 57)) ∧ (True)) (fun (u : Unit) => []) := by
  refine xMi.of (cc := cX7_isDigit) (maxL := 1) (by decide +kernel) rfl (Nat.le_of_ble_eq_true rfl) ?_
  intro p e s m below meth c A Q H hx hb hml hown hts hA hP hD hK hS hG hret ls hl
  have hown : s.vm.findClass RX7 = some m.cls := hown
  have hP : va_P D vwCl [] H := hP
  have hD : va_D A [] := hD
  have hl : lv_has ls 1 [(0, .int b)] := hl
  have _h0 : True := trivial
  refine lv_iload_n hx hb dX7_isDigit_0 rfl (lv_at hl 0 rfl) ?_
  refine lv_bipush (v := (48 : Int32)) hx hb dX7_isDigit_1 (by decide) ?_
  refine lv_icmp_lt (tgt := 16) hx hb dX7_isDigit_3 (by decide) (fun c_3 => ?_) (fun c_3 => ?_)
  ·
    refine lv_iconst (v := (0 : Int32)) hx hb dX7_isDigit_16 (by decide) ?_
    exact hret _ () _ _ _ _ (rfl) (⟨by first | exact bbT ⟨Int32.not_lt.1 (by assumption), Int32.not_lt.1 (by assumption)⟩ | exact bbF (fun q => absurd q.1 (Int32.not_le.2 (by assumption))) | exact bbF (fun q => absurd q.2 (Int32.not_le.2 (by assumption))), trivial⟩) hP hD hS dX7_isDigit_17
  ·
    refine lv_iload_n hx hb dX7_isDigit_6 rfl (lv_at hl 0 rfl) ?_
    refine lv_bipush (v := (57 : Int32)) hx hb dX7_isDigit_7 (by decide) ?_
    refine lv_icmp_gt (tgt := 16) hx hb dX7_isDigit_9 (by decide) (fun c_9 => ?_) (fun c_9 => ?_)
    ·
      refine lv_iconst (v := (0 : Int32)) hx hb dX7_isDigit_16 (by decide) ?_
      exact hret _ () _ _ _ _ (rfl) (⟨by first | exact bbT ⟨Int32.not_lt.1 (by assumption), Int32.not_lt.1 (by assumption)⟩ | exact bbF (fun q => absurd q.1 (Int32.not_le.2 (by assumption))) | exact bbF (fun q => absurd q.2 (Int32.not_le.2 (by assumption))), trivial⟩) hP hD hS dX7_isDigit_17
    ·
      refine lv_iconst (v := (1 : Int32)) hx hb dX7_isDigit_12 (by decide) ?_
      refine lv_goto (tgt := 17) hx hb dX7_isDigit_13 (by decide) ?_
      exact hret _ () _ _ _ _ (rfl) (⟨by first | exact bbT ⟨Int32.not_lt.1 (by assumption), Int32.not_lt.1 (by assumption)⟩ | exact bbF (fun q => absurd q.1 (Int32.not_le.2 (by assumption))) | exact bbF (fun q => absurd q.2 (Int32.not_le.2 (by assumption))), trivial⟩) hP hD hS dX7_isDigit_17

set_option maxHeartbeats 4000000 in
set_option maxRecDepth 100000 in
theorem c_X7_kind (l : Launch) (D : va_G) (cI cZ cO : ClassId) (sz : Nat) (gR : Nat) (gD : Nat) (gK : Nat → Nat) (gV : Nat → Nat) (k0 : Nat) (k1 : Nat) (k2 : Nat) (k3 : Nat) (tz : Nat) (ta : Nat) (ts_ : Nat) (tn_ : Nat) (tv_ : Nat) (tkk : Nat → Nat) (tkv : Nat → Nat) (tks : Nat → Nat) (hz : tz ≤ 301) (ha : ta < tz) : xMi l yX7_kind wsX7_kind (0) (0) D (TY cI cZ cO) (xGc gR gD gK gV) [.ref k0] [(k0, .inr (6, [.ref k1, .ref k2, .ref k3, .int (nI tz), .int (nI ta), .int (nI ts_), .int (nI tn_), .int (nI tv_)])), (k1, .inl (cI, 301, .inl (rI tkk))), (k2, .inl (cI, 301, .inl (rI tkv))), (k3, .inl (cI, 301, .inl (rI tks)))] sz (fun (rv_ : Int32) (u : Unit) => rv_ = (nI (tkk ta)) ∧ (True)) (fun (u : Unit) => [(k0, .inr (6, [.ref k1, .ref k2, .ref k3, .int (nI tz), .int (nI ta), .int (nI ts_), .int (nI tn_), .int (nI tv_)])), (k1, .inl (cI, 301, .inl (rI tkk))), (k2, .inl (cI, 301, .inl (rI tkv))), (k3, .inl (cI, 301, .inl (rI tks)))]) := by
  refine xMi.of (cc := cX7_kind) (maxL := 1) (by decide +kernel) rfl (Nat.le_of_ble_eq_true rfl) ?_
  intro p e s m below meth c A Q H hx hb hml hown hts hA hP hD hK hS hG hret ls hl
  have hown : s.vm.findClass RX7 = some m.cls := hown
  have hP : va_P D vwCl [(k0, .inr (6, [.ref k1, .ref k2, .ref k3, .int (nI tz), .int (nI ta), .int (nI ts_), .int (nI tn_), .int (nI tv_)])), (k1, .inl (cI, 301, .inl (rI tkk))), (k2, .inl (cI, 301, .inl (rI tkv))), (k3, .inl (cI, 301, .inl (rI tks)))] H := hP
  have hD : va_D A [(k0, .inr (6, [.ref k1, .ref k2, .ref k3, .int (nI tz), .int (nI ta), .int (nI ts_), .int (nI tn_), .int (nI tv_)])), (k1, .inl (cI, 301, .inl (rI tkk))), (k2, .inl (cI, 301, .inl (rI tkv))), (k3, .inl (cI, 301, .inl (rI tks)))] := hD
  have hl : lv_has ls 1 [(0, .ref k0)] := hl
  have w_0 := hts (.fieldLink RX7 25 "UnlikeRoofs$Tokens" "at" "I") (List.mem_of_getElem? (i := 1) (by rfl))
  have w_1 := hts (.fieldLink RX7 21 "UnlikeRoofs$Tokens" "size" "I") (List.mem_of_getElem? (i := 2) (by rfl))
  have w_2 := hts (.fieldLink RX7 9 "UnlikeRoofs$Tokens" "kinds" "[I") (List.mem_of_getElem? (i := 3) (by rfl))
  have hin_X7 : ∀ w ∈ wsX70, w ∈ wsX7_kind := fun _ h => List.mem_cons_of_mem _ (List.mem_append_right _ h)
  have _h0 : True := trivial
  refine lv_aload_n hx hb dX7_kind_0 rfl (lv_at hl 0 rfl) ?_
  refine va_get (D := D) (ci := 6) (v := .int (nI ta)) (C := RX7) (T := TX7) (N := 8) hx hb hts hin_X7 hown hK hP 0 rfl rfl 4 (by decide) w_0 (fun _ h9 => h9) rfl dX7_kind_1 ?_
  refine lv_aload_n hx hb dX7_kind_4 rfl (lv_at hl 0 rfl) ?_
  refine va_get (D := D) (ci := 6) (v := .int (nI tz)) (C := RX7) (T := TX7) (N := 8) hx hb hts hin_X7 hown hK hP 0 rfl rfl 3 (by decide) w_1 (fun _ h9 => h9) rfl dX7_kind_5 ?_
  refine lv_icmp_ge (tgt := 23) hx hb dX7_kind_8 (by decide) (fun c_8 => ?_) (fun c_8 => ?_)
  ·
    have n_8 : tz ≤ ta := (nI_leI (show tz < 2147483648 by omega) (show ta < 2147483648 by omega)).1 c_8
    exact absurd n_8 (by omega)
  ·
    have n_8 : ta < tz := Nat.lt_of_not_le (fun q => c_8 ((nI_leI (show tz < 2147483648 by omega) (show ta < 2147483648 by omega)).2 q))
    refine lv_aload_n hx hb dX7_kind_11 rfl (lv_at hl 0 rfl) ?_
    refine va_get (D := D) (ci := 6) (v := .ref k1) (C := RX7) (T := TX7) (N := 8) hx hb hts hin_X7 hown hK hP 0 rfl rfl 0 (by decide) w_2 (fun _ h9 => h9) rfl dX7_kind_12 ?_
    refine lv_aload_n hx hb dX7_kind_15 rfl (lv_at hl 0 rfl) ?_
    refine va_get (D := D) (ci := 6) (v := .int (nI ta)) (C := RX7) (T := TX7) (N := 8) hx hb hts hin_X7 hown hK hP 0 rfl rfl 4 (by decide) w_0 (fun _ h9 => h9) rfl dX7_kind_16 ?_
    refine x_iald hx hb hK hP 1 0 rfl rfl (j := ta) (by omega) (by decide) dX7_kind_19 ?_
    refine lv_goto (tgt := 24) hx hb dX7_kind_20 (by decide) ?_
    exact hret _ () _ _ _ _ (rfl) (⟨rfl, trivial⟩) hP hD hS dX7_kind_24

set_option maxHeartbeats 4000000 in
set_option maxRecDepth 100000 in
theorem c_X7_place (l : Launch) (D : va_G) (cI cZ cO : ClassId) (sz : Nat) (gR : Nat) (gD : Nat) (gK : Nat → Nat) (gV : Nat → Nat) (k0 : Nat) (k1 : Nat) (k2 : Nat) (k3 : Nat) (tz : Nat) (ta : Nat) (ts_ : Nat) (tn_ : Nat) (tv_ : Nat) (tkk : Nat → Nat) (tkv : Nat → Nat) (tks : Nat → Nat) (hz : tz ≤ 301) (ha : ta < tz) : xMi l yX7_place wsX7_place (0) (0) D (TY cI cZ cO) (xGc gR gD gK gV) [.ref k0] [(k0, .inr (6, [.ref k1, .ref k2, .ref k3, .int (nI tz), .int (nI ta), .int (nI ts_), .int (nI tn_), .int (nI tv_)])), (k1, .inl (cI, 301, .inl (rI tkk))), (k2, .inl (cI, 301, .inl (rI tkv))), (k3, .inl (cI, 301, .inl (rI tks)))] sz (fun (rv_ : Int32) (u : Unit) => rv_ = (nI (tks ta)) ∧ (True)) (fun (u : Unit) => [(k0, .inr (6, [.ref k1, .ref k2, .ref k3, .int (nI tz), .int (nI ta), .int (nI ts_), .int (nI tn_), .int (nI tv_)])), (k1, .inl (cI, 301, .inl (rI tkk))), (k2, .inl (cI, 301, .inl (rI tkv))), (k3, .inl (cI, 301, .inl (rI tks)))]) := by
  refine xMi.of (cc := cX7_place) (maxL := 1) (by decide +kernel) rfl (Nat.le_of_ble_eq_true rfl) ?_
  intro p e s m below meth c A Q H hx hb hml hown hts hA hP hD hK hS hG hret ls hl
  have hown : s.vm.findClass RX7 = some m.cls := hown
  have hP : va_P D vwCl [(k0, .inr (6, [.ref k1, .ref k2, .ref k3, .int (nI tz), .int (nI ta), .int (nI ts_), .int (nI tn_), .int (nI tv_)])), (k1, .inl (cI, 301, .inl (rI tkk))), (k2, .inl (cI, 301, .inl (rI tkv))), (k3, .inl (cI, 301, .inl (rI tks)))] H := hP
  have hD : va_D A [(k0, .inr (6, [.ref k1, .ref k2, .ref k3, .int (nI tz), .int (nI ta), .int (nI ts_), .int (nI tn_), .int (nI tv_)])), (k1, .inl (cI, 301, .inl (rI tkk))), (k2, .inl (cI, 301, .inl (rI tkv))), (k3, .inl (cI, 301, .inl (rI tks)))] := hD
  have hl : lv_has ls 1 [(0, .ref k0)] := hl
  have w_0 := hts (.fieldLink RX7 25 "UnlikeRoofs$Tokens" "at" "I") (List.mem_of_getElem? (i := 1) (by rfl))
  have w_1 := hts (.fieldLink RX7 21 "UnlikeRoofs$Tokens" "size" "I") (List.mem_of_getElem? (i := 2) (by rfl))
  have w_2 := hts (.fieldLink RX7 18 "UnlikeRoofs$Tokens" "starts" "[I") (List.mem_of_getElem? (i := 3) (by rfl))
  have hin_X7 : ∀ w ∈ wsX70, w ∈ wsX7_place := fun _ h => List.mem_cons_of_mem _ (List.mem_append_right _ h)
  have _h0 : True := trivial
  refine lv_aload_n hx hb dX7_place_0 rfl (lv_at hl 0 rfl) ?_
  refine va_get (D := D) (ci := 6) (v := .int (nI ta)) (C := RX7) (T := TX7) (N := 8) hx hb hts hin_X7 hown hK hP 0 rfl rfl 4 (by decide) w_0 (fun _ h9 => h9) rfl dX7_place_1 ?_
  refine lv_aload_n hx hb dX7_place_4 rfl (lv_at hl 0 rfl) ?_
  refine va_get (D := D) (ci := 6) (v := .int (nI tz)) (C := RX7) (T := TX7) (N := 8) hx hb hts hin_X7 hown hK hP 0 rfl rfl 3 (by decide) w_1 (fun _ h9 => h9) rfl dX7_place_5 ?_
  refine lv_icmp_ge (tgt := 23) hx hb dX7_place_8 (by decide) (fun c_8 => ?_) (fun c_8 => ?_)
  ·
    have n_8 : tz ≤ ta := (nI_leI (show tz < 2147483648 by omega) (show ta < 2147483648 by omega)).1 c_8
    exact absurd n_8 (by omega)
  ·
    have n_8 : ta < tz := Nat.lt_of_not_le (fun q => c_8 ((nI_leI (show tz < 2147483648 by omega) (show ta < 2147483648 by omega)).2 q))
    refine lv_aload_n hx hb dX7_place_11 rfl (lv_at hl 0 rfl) ?_
    refine va_get (D := D) (ci := 6) (v := .ref k3) (C := RX7) (T := TX7) (N := 8) hx hb hts hin_X7 hown hK hP 0 rfl rfl 2 (by decide) w_2 (fun _ h9 => h9) rfl dX7_place_12 ?_
    refine lv_aload_n hx hb dX7_place_15 rfl (lv_at hl 0 rfl) ?_
    refine va_get (D := D) (ci := 6) (v := .int (nI ta)) (C := RX7) (T := TX7) (N := 8) hx hb hts hin_X7 hown hK hP 0 rfl rfl 4 (by decide) w_0 (fun _ h9 => h9) rfl dX7_place_16 ?_
    refine x_iald hx hb hK hP 3 0 rfl rfl (j := ta) (by omega) (by decide) dX7_place_19 ?_
    refine lv_goto (tgt := 24) hx hb dX7_place_20 (by decide) ?_
    exact hret _ () _ _ _ _ (rfl) (⟨rfl, trivial⟩) hP hD hS dX7_place_24

set_option maxHeartbeats 4000000 in
set_option maxRecDepth 100000 in
theorem c_X7_advance (l : Launch) (D : va_G) (cI cZ cO : ClassId) (sz : Nat) (gR : Nat) (gD : Nat) (gK : Nat → Nat) (gV : Nat → Nat) (k0 : Nat) (k1 : Nat) (k2 : Nat) (k3 : Nat) (tz : Nat) (ta : Nat) (ts_ : Nat) (tn_ : Nat) (tv_ : Nat) (tkk : Nat → Nat) (tkv : Nat → Nat) (tks : Nat → Nat) (hz : tz ≤ 301) (ha : ta < tz) : xMv l yX7_advance wsX7_advance (0) (0) D (TY cI cZ cO) (xGc gR gD gK gV) [.ref k0] [(k0, .inr (6, [.ref k1, .ref k2, .ref k3, .int (nI tz), .int (nI ta), .int (nI ts_), .int (nI tn_), .int (nI tv_)])), (k1, .inl (cI, 301, .inl (rI tkk))), (k2, .inl (cI, 301, .inl (rI tkv))), (k3, .inl (cI, 301, .inl (rI tks)))] sz (fun (u : Nat) => (u = (if ta + 1 < tz then ta + 1 else ta))) (fun (u : Nat) => [(k0, .inr (6, [.ref k1, .ref k2, .ref k3, .int (nI tz), .int (nI u), .int (nI ts_), .int (nI tn_), .int (nI tv_)])), (k1, .inl (cI, 301, .inl (rI tkk))), (k2, .inl (cI, 301, .inl (rI tkv))), (k3, .inl (cI, 301, .inl (rI tks)))]) := by
  refine xMv.of (cc := cX7_advance) (maxL := 1) (by decide +kernel) rfl (Nat.le_of_ble_eq_true rfl) ?_
  intro p e s m below meth c A Q H hx hb hml hown hts hA hP hD hK hS hG hret ls hl
  have hown : s.vm.findClass RX7 = some m.cls := hown
  have hP : va_P D vwCl [(k0, .inr (6, [.ref k1, .ref k2, .ref k3, .int (nI tz), .int (nI ta), .int (nI ts_), .int (nI tn_), .int (nI tv_)])), (k1, .inl (cI, 301, .inl (rI tkk))), (k2, .inl (cI, 301, .inl (rI tkv))), (k3, .inl (cI, 301, .inl (rI tks)))] H := hP
  have hD : va_D A [(k0, .inr (6, [.ref k1, .ref k2, .ref k3, .int (nI tz), .int (nI ta), .int (nI ts_), .int (nI tn_), .int (nI tv_)])), (k1, .inl (cI, 301, .inl (rI tkk))), (k2, .inl (cI, 301, .inl (rI tkv))), (k3, .inl (cI, 301, .inl (rI tks)))] := hD
  have hl : lv_has ls 1 [(0, .ref k0)] := hl
  have w_0 := hts (.fieldLink RX7 25 "UnlikeRoofs$Tokens" "at" "I") (List.mem_of_getElem? (i := 1) (by rfl))
  have w_1 := hts (.fieldLink RX7 21 "UnlikeRoofs$Tokens" "size" "I") (List.mem_of_getElem? (i := 2) (by rfl))
  have hin_X7 : ∀ w ∈ wsX70, w ∈ wsX7_advance := fun _ h => List.mem_cons_of_mem _ (List.mem_append_right _ h)
  have _h0 : True := trivial
  refine lv_aload_n hx hb dX7_advance_0 rfl (lv_at hl 0 rfl) ?_
  refine va_get (D := D) (ci := 6) (v := .int (nI ta)) (C := RX7) (T := TX7) (N := 8) hx hb hts hin_X7 hown hK hP 0 rfl rfl 4 (by decide) w_0 (fun _ h9 => h9) rfl dX7_advance_1 ?_
  refine lv_aload_n hx hb dX7_advance_4 rfl (lv_at hl 0 rfl) ?_
  refine va_get (D := D) (ci := 6) (v := .int (nI tz)) (C := RX7) (T := TX7) (N := 8) hx hb hts hin_X7 hown hK hP 0 rfl rfl 3 (by decide) w_1 (fun _ h9 => h9) rfl dX7_advance_5 ?_
  refine lv_iconst (v := (1 : Int32)) hx hb dX7_advance_8 (by decide) ?_
  refine lv_isub hx hb dX7_advance_9 ?_
  refine lv_topr (x' := nI (tz - 1)) (pk_sub (show 1 ≤ tz by omega)) ?_
  refine lv_icmp_ge (tgt := 23) hx hb dX7_advance_10 (by decide) (fun c_10 => ?_) (fun c_10 => ?_)
  ·
    have n_10 : (tz - 1) ≤ ta := (nI_leI (show (tz - 1) < 2147483648 by omega) (show ta < 2147483648 by omega)).1 c_10
    exact hret (ta) _ _ _ _ (by first | exact (if_neg (by omega)).symm | exact (if_pos (by omega)).symm) hP hD hS dX7_advance_23
  ·
    have n_10 : ta < (tz - 1) := Nat.lt_of_not_le (fun q => c_10 ((nI_leI (show (tz - 1) < 2147483648 by omega) (show ta < 2147483648 by omega)).2 q))
    refine lv_aload_n hx hb dX7_advance_13 rfl (lv_at hl 0 rfl) ?_
    refine lv_dup hx hb dX7_advance_14 rfl ?_
    refine va_get (D := D) (ci := 6) (v := .int (nI ta)) (C := RX7) (T := TX7) (N := 8) hx hb hts hin_X7 hown hK hP 0 rfl rfl 4 (by decide) w_0 (fun _ h9 => h9) rfl dX7_advance_15 ?_
    refine lv_iconst (v := (1 : Int32)) hx hb dX7_advance_18 (by decide) ?_
    refine lv_iadd hx hb dX7_advance_19 ?_
    refine lv_topr (x' := nI (ta + 1)) (nI_add ta 1) ?_
    refine va_put (D := D) (ci := 6) (v := .int (nI (ta + 1))) (ty := .int) (C := RX7) (T := TX7) (N := 8) hx hb hts hin_X7 tyX7 tyX7_ok nmX7 hown hK hP hD hS 0 rfl rfl 4 (by decide) w_0 (fun _ h9 => h9) rfl (by decide +kernel) rfl rfl (Nat.le_of_ble_eq_true rfl) dX7_advance_20 (fun H locs hP hD hS => ?_)
    have hP : va_P D vwCl [(k0, .inr (6, [.ref k1, .ref k2, .ref k3, .int (nI tz), .int (nI (ta + 1)), .int (nI ts_), .int (nI tn_), .int (nI tv_)])), (k1, .inl (cI, 301, .inl (rI tkk))), (k2, .inl (cI, 301, .inl (rI tkv))), (k3, .inl (cI, 301, .inl (rI tks)))] H := hP
    have hD : va_D A [(k0, .inr (6, [.ref k1, .ref k2, .ref k3, .int (nI tz), .int (nI (ta + 1)), .int (nI ts_), .int (nI tn_), .int (nI tv_)])), (k1, .inl (cI, 301, .inl (rI tkk))), (k2, .inl (cI, 301, .inl (rI tkv))), (k3, .inl (cI, 301, .inl (rI tks)))] := hD
    exact hret (ta + 1) _ _ _ _ (by first | exact (if_neg (by omega)).symm | exact (if_pos (by omega)).symm) hP hD hS dX7_advance_23

set_option maxHeartbeats 4000000 in
set_option maxRecDepth 100000 in
theorem c_X7_numberFrom (l : Launch) (D : va_G) (cI cZ cO : ClassId) (sz : Nat) (gR : Nat) (gD : Nat) (gK : Nat → Nat) (gV : Nat → Nat) (k0 : Nat) (k1 : Nat) (k2 : Nat) (k3 : Nat) (tz : Nat) (ta : Nat) (ts_ : Nat) (tn_ : Nat) (tv_ : Nat) (tkk : Nat → Nat) (tkv : Nat → Nat) (tks : Nat → Nat) (lo_ : Int32) (hi_ : Int32) (hz : tz ≤ 301) (ha : ta < tz) (hkk : tkk ta < 100) : xMi l yX7_numberFrom wsX7_numberFrom (1) (20) D (TY cI cZ cO) (xGc gR gD gK gV) [.ref k0, .int lo_, .int hi_] [(k0, .inr (6, [.ref k1, .ref k2, .ref k3, .int (nI tz), .int (nI ta), .int (nI ts_), .int (nI tn_), .int (nI tv_)])), (k1, .inl (cI, 301, .inl (rI tkk))), (k2, .inl (cI, 301, .inl (rI tkv))), (k3, .inl (cI, 301, .inl (rI tks)))] sz (fun (rv_ : Int32) (u : Unit) => rv_ = (if tkk ta = 3 ∧ inr (nI (tkv ta)) lo_ hi_ = true then nI (tkv ta) else (-9)) ∧ (True)) (fun (u : Unit) => [(k0, .inr (6, [.ref k1, .ref k2, .ref k3, .int (nI tz), .int (nI ta), .int (nI ts_), .int (nI tn_), .int (nI tv_)])), (k1, .inl (cI, 301, .inl (rI tkk))), (k2, .inl (cI, 301, .inl (rI tkv))), (k3, .inl (cI, 301, .inl (rI tks)))]) := by
  refine xMi.of (cc := cX7_numberFrom) (maxL := 4) (by decide +kernel) rfl (Nat.le_of_ble_eq_true rfl) ?_
  intro p e s m below meth c A Q H hx hb hml hown hts hA hP hD hK hS hG hret ls hl
  have hown : s.vm.findClass RX7 = some m.cls := hown
  have hP : va_P D vwCl [(k0, .inr (6, [.ref k1, .ref k2, .ref k3, .int (nI tz), .int (nI ta), .int (nI ts_), .int (nI tn_), .int (nI tv_)])), (k1, .inl (cI, 301, .inl (rI tkk))), (k2, .inl (cI, 301, .inl (rI tkv))), (k3, .inl (cI, 301, .inl (rI tks)))] H := hP
  have hD : va_D A [(k0, .inr (6, [.ref k1, .ref k2, .ref k3, .int (nI tz), .int (nI ta), .int (nI ts_), .int (nI tn_), .int (nI tv_)])), (k1, .inl (cI, 301, .inl (rI tkk))), (k2, .inl (cI, 301, .inl (rI tkv))), (k3, .inl (cI, 301, .inl (rI tks)))] := hD
  have hl : lv_has ls 4 [(0, .ref k0), (1, .int lo_), (2, .int hi_)] := hl
  have w_0 := hts (.fieldLink RX7 15 "UnlikeRoofs$Tokens" "values" "[I") (List.mem_of_getElem? (i := 1) (by rfl))
  have w_1 := hts (.fieldLink RX7 25 "UnlikeRoofs$Tokens" "at" "I") (List.mem_of_getElem? (i := 2) (by rfl))
  have hin_X7 : ∀ w ∈ wsX70, w ∈ wsX7_numberFrom := fun _ h => List.mem_cons_of_mem _ (List.mem_append_right _ h)
  have _h0 : True := trivial
  have L_39 : ∀ (fi : Bool), (fi = decide (tkk ta = 3 ∧ inr (nI (tkv ta)) lo_ hi_ = true)) → ∀ (H : Heap) (locs : List Loc), va_P D vwCl [(k0, .inr (6, [.ref k1, .ref k2, .ref k3, .int (nI tz), .int (nI ta), .int (nI ts_), .int (nI tn_), .int (nI tv_)])), (k1, .inl (cI, 301, .inl (rI tkk))), (k2, .inl (cI, 301, .inl (rI tkv))), (k3, .inl (cI, 301, .inl (rI tks)))] H → va_D A [(k0, .inr (6, [.ref k1, .ref k2, .ref k3, .int (nI tz), .int (nI ta), .int (nI ts_), .int (nI tn_), .int (nI tv_)])), (k1, .inl (cI, 301, .inl (rI tkk))), (k2, .inl (cI, 301, .inl (rI tkv))), (k3, .inl (cI, 301, .inl (rI tks)))] → va_S A s.heap H locs → ∀ ls : Array Slot, lv_has ls 4 [(0, .ref k0), (1, .int lo_), (2, .int hi_)] → W p l e (xRm 1 20) s m ([.ref k0, .int lo_, .int hi_] : List Value).toArray below meth c H locs 0 0 Q (F0 m 39 ls [.int (bb fi)]) := by
    intro fi hfi H locs hP hD hS ls hl
    refine lv_istore_n (lv' := [(3, .int (bb fi)), (0, .ref k0), (1, .int lo_), (2, .int hi_)]) hx hb dX7_numberFrom_39 rfl hl (by decide) rfl (fun ls hl => ?_)
    refine lv_iload_n hx hb dX7_numberFrom_40 rfl (lv_at hl 0 rfl) ?_
    refine lv_if_eq (tgt := 56) hx hb dX7_numberFrom_41 (by decide) (fun c_41 => ?_) (fun c_41 => ?_)
    ·
      have b_41 : fi = false := bb_eq0 c_41
      refine lv_bipush (v := (-9 : Int32)) hx hb dX7_numberFrom_56 (by decide) ?_
      exact hret _ () _ _ _ _ (rfl) (⟨(if_neg (of_decide_eq_false (hfi.symm.trans b_41))).symm, trivial⟩) hP hD hS dX7_numberFrom_58
    ·
      have b_41 : fi = true := bb_neq0 c_41
      refine lv_aload_n hx hb dX7_numberFrom_44 rfl (lv_at hl 1 rfl) ?_
      refine va_get (D := D) (ci := 6) (v := .ref k2) (C := RX7) (T := TX7) (N := 8) hx hb hts hin_X7 hown hK hP 0 rfl rfl 1 (by decide) w_0 (fun _ h9 => h9) rfl dX7_numberFrom_45 ?_
      refine lv_aload_n hx hb dX7_numberFrom_48 rfl (lv_at hl 1 rfl) ?_
      refine va_get (D := D) (ci := 6) (v := .int (nI ta)) (C := RX7) (T := TX7) (N := 8) hx hb hts hin_X7 hown hK hP 0 rfl rfl 4 (by decide) w_1 (fun _ h9 => h9) rfl dX7_numberFrom_49 ?_
      refine x_iald hx hb hK hP 2 0 rfl rfl (j := ta) (by omega) (by decide) dX7_numberFrom_52 ?_
      refine lv_goto (tgt := 58) hx hb dX7_numberFrom_53 (by decide) ?_
      exact hret _ () _ _ _ _ (rfl) (⟨(if_pos (of_decide_eq_true (hfi.symm.trans b_41))).symm, trivial⟩) hP hD hS dX7_numberFrom_58
  refine lv_aload_n hx hb dX7_numberFrom_0 rfl (lv_at hl 0 rfl) ?_
  refine xcV_i (As := []) (rest := []) (wc := [(k0, .inr (6, [.ref k1, .ref k2, .ref k3, .int (nI tz), .int (nI ta), .int (nI ts_), .int (nI tn_), .int (nI tv_)])), (k1, .inl (cI, 301, .inl (rI tkk))), (k2, .inl (cI, 301, .inl (rI tkv))), (k3, .inl (cI, 301, .inl (rI tks)))]) (wr := []) (w3 := fun (u : Unit) => [(k0, .inr (6, [.ref k1, .ref k2, .ref k3, .int (nI tz), .int (nI ta), .int (nI ts_), .int (nI tn_), .int (nI tv_)])), (k1, .inl (cI, 301, .inl (rI tkk))), (k2, .inl (cI, 301, .inl (rI tkv))), (k3, .inl (cI, 301, .inl (rI tks)))]) ⟨hx, hb, hml, hown, hts⟩ (c_X7_kind l D cI cZ cO H.size gR gD gK gV k0 k1 k2 k3 tz ta ts_ tn_ tv_ tkk tkv tks (by first | assumption | omega | rfl) (by first | assumption | omega | rfl)) (cwV 0 hts gX7_numberFrom_X7_kind rfl rfl rfl (by decide +kernel) ⟨Nat.le_of_ble_eq_true rfl, Nat.le_of_ble_eq_true rfl⟩) (xGdc gR gD gK gV) (xGdc gR gD gK gV) (fun _ _ _ h => h) hG hP hD hK hS hA [0, 1, 2, 3] [] [0, 1, 2, 3] rfl rfl rfl rfl rfl 0 rfl rfl rfl (fun _ => rfl) rfl rfl hl.1 (Nat.le_of_ble_eq_true rfl) dX7_numberFrom_1 ⟨Nat.zero_le _, Nat.zero_le _⟩ (fun r u H locs hw hP hD hS => ?_)
  obtain ⟨rfl, hw⟩ := hw
  have hw_1 : True := hw
  have hP : va_P D vwCl [(k0, .inr (6, [.ref k1, .ref k2, .ref k3, .int (nI tz), .int (nI ta), .int (nI ts_), .int (nI tn_), .int (nI tv_)])), (k1, .inl (cI, 301, .inl (rI tkk))), (k2, .inl (cI, 301, .inl (rI tkv))), (k3, .inl (cI, 301, .inl (rI tks)))] H := hP
  have hD : va_D A [(k0, .inr (6, [.ref k1, .ref k2, .ref k3, .int (nI tz), .int (nI ta), .int (nI ts_), .int (nI tn_), .int (nI tv_)])), (k1, .inl (cI, 301, .inl (rI tkk))), (k2, .inl (cI, 301, .inl (rI tkv))), (k3, .inl (cI, 301, .inl (rI tks)))] := hD
  refine lv_iconst (v := (3 : Int32)) hx hb dX7_numberFrom_4 (by decide) ?_
  refine lv_icmp_ne (tgt := 38) hx hb dX7_numberFrom_5 (by decide) (fun c_5 => ?_) (fun c_5 => ?_)
  ·
    have n_5 : ¬ (tkk ta) = 3 := fun q => c_5 (congrArg nI q)
    refine lv_iconst (v := (0 : Int32)) hx hb dX7_numberFrom_38 (by decide) ?_
    exact L_39 false ((decide_eq_false (fun q => n_5 q.1)).symm) _ _ hP hD hS _ (lv_sub hl [0, 1, 2] rfl)
  ·
    have n_5 : (tkk ta) = 3 := (nI_eq (show (tkk ta) < 2147483648 by omega) (show 3 < 2147483648 by omega)).1 c_5
    refine lv_aload_n hx hb dX7_numberFrom_8 rfl (lv_at hl 0 rfl) ?_
    refine va_get (D := D) (ci := 6) (v := .ref k2) (C := RX7) (T := TX7) (N := 8) hx hb hts hin_X7 hown hK hP 0 rfl rfl 1 (by decide) w_0 (fun _ h9 => h9) rfl dX7_numberFrom_9 ?_
    refine lv_aload_n hx hb dX7_numberFrom_12 rfl (lv_at hl 0 rfl) ?_
    refine va_get (D := D) (ci := 6) (v := .int (nI ta)) (C := RX7) (T := TX7) (N := 8) hx hb hts hin_X7 hown hK hP 0 rfl rfl 4 (by decide) w_1 (fun _ h9 => h9) rfl dX7_numberFrom_13 ?_
    refine x_iald hx hb hK hP 2 0 rfl rfl (j := ta) (by omega) (by decide) dX7_numberFrom_16 ?_
    refine lv_iload_n hx hb dX7_numberFrom_17 rfl (lv_at hl 1 rfl) ?_
    refine lv_icmp_lt (tgt := 38) hx hb dX7_numberFrom_18 (by decide) (fun c_18 => ?_) (fun c_18 => ?_)
    ·
      refine lv_iconst (v := (0 : Int32)) hx hb dX7_numberFrom_38 (by decide) ?_
      exact L_39 false ((decide_eq_false (fun q => absurd (of_decide_eq_true q.2).1 (Int32.not_le.2 c_18))).symm) _ _ hP hD hS _ (lv_sub hl [0, 1, 2] rfl)
    ·
      refine lv_aload_n hx hb dX7_numberFrom_21 rfl (lv_at hl 0 rfl) ?_
      refine va_get (D := D) (ci := 6) (v := .ref k2) (C := RX7) (T := TX7) (N := 8) hx hb hts hin_X7 hown hK hP 0 rfl rfl 1 (by decide) w_0 (fun _ h9 => h9) rfl dX7_numberFrom_22 ?_
      refine lv_aload_n hx hb dX7_numberFrom_25 rfl (lv_at hl 0 rfl) ?_
      refine va_get (D := D) (ci := 6) (v := .int (nI ta)) (C := RX7) (T := TX7) (N := 8) hx hb hts hin_X7 hown hK hP 0 rfl rfl 4 (by decide) w_1 (fun _ h9 => h9) rfl dX7_numberFrom_26 ?_
      refine x_iald hx hb hK hP 2 0 rfl rfl (j := ta) (by omega) (by decide) dX7_numberFrom_29 ?_
      refine lv_iload_n hx hb dX7_numberFrom_30 rfl (lv_at hl 2 rfl) ?_
      refine lv_icmp_gt (tgt := 38) hx hb dX7_numberFrom_31 (by decide) (fun c_31 => ?_) (fun c_31 => ?_)
      ·
        refine lv_iconst (v := (0 : Int32)) hx hb dX7_numberFrom_38 (by decide) ?_
        exact L_39 false ((decide_eq_false (fun q => absurd (of_decide_eq_true q.2).2 (Int32.not_le.2 c_31))).symm) _ _ hP hD hS _ (lv_sub hl [0, 1, 2] rfl)
      ·
        refine lv_iconst (v := (1 : Int32)) hx hb dX7_numberFrom_34 (by decide) ?_
        refine lv_goto (tgt := 39) hx hb dX7_numberFrom_35 (by decide) ?_
        exact L_39 true ((decide_eq_true ⟨n_5, decide_eq_true ⟨Int32.not_lt.1 c_18, Int32.not_lt.1 c_31⟩⟩).symm) _ _ hP hD hS _ (lv_sub hl [0, 1, 2] rfl)

set_option maxHeartbeats 4000000 in
set_option maxRecDepth 100000 in
theorem c_X7_readNumber (l : Launch) (D : va_G) (cI cZ cO : ClassId) (sz : Nat) (gR : Nat) (gD : Nat) (gK : Nat → Nat) (gV : Nat → Nat) (k0 : Nat) (k1 : Nat) (k2 : Nat) (k3 : Nat) (tz : Nat) (ta : Nat) (tkk : Nat → Nat) (tkv : Nat → Nat) (tks : Nat → Nat) (n1 : Nat) (t0 : Nat) (t1 : Nat) (ty : Nat) (bt : Nat → Nat) (hty : ty ≤ 300) (hF : fOK bt ty) (h1 : n1 < ty) : xMi l yX7_readNumber wsX7_readNumber (1) (21) D (TY cI cZ cO) (xGc gR gD gK gV) [.ref k0, .ref t0] [(k0, .inr (6, [.ref k1, .ref k2, .ref k3, .int (nI tz), .int (nI ta), .int (nI n1), .int (nI n1), .int (nI 0)])), (k1, .inl (cI, 301, .inl (rI tkk))), (k2, .inl (cI, 301, .inl (rI tkv))), (k3, .inl (cI, 301, .inl (rI tks))), (t0, .inr (5, [.ref t1, .int (nI ty)])), (t1, .inl (cI, 300, .inl (rI bt)))] sz (fun (rv_ : Int32) (u : Nat × Nat) => rv_ = (nI (nkN bt ty n1)) ∧ ((u.1) = dgE bt ty n1 ∧ (u.2) = min 100 (nuN bt ty n1))) (fun (u : Nat × Nat) => [(k0, .inr (6, [.ref k1, .ref k2, .ref k3, .int (nI tz), .int (nI ta), .int (nI n1), .int (nI (u.1)), .int (nI (u.2))])), (k1, .inl (cI, 301, .inl (rI tkk))), (k2, .inl (cI, 301, .inl (rI tkv))), (k3, .inl (cI, 301, .inl (rI tks))), (t0, .inr (5, [.ref t1, .int (nI ty)])), (t1, .inl (cI, 300, .inl (rI bt)))]) := by
  refine xMi.of (cc := cX7_readNumber) (maxL := 3) (by decide +kernel) rfl (Nat.le_of_ble_eq_true rfl) ?_
  intro p e s m below meth c A Q H hx hb hml hown hts hA hP hD hK hS hG hret ls hl
  have hown : s.vm.findClass RX7 = some m.cls := hown
  have hP : va_P D vwCl [(k0, .inr (6, [.ref k1, .ref k2, .ref k3, .int (nI tz), .int (nI ta), .int (nI n1), .int (nI n1), .int (nI 0)])), (k1, .inl (cI, 301, .inl (rI tkk))), (k2, .inl (cI, 301, .inl (rI tkv))), (k3, .inl (cI, 301, .inl (rI tks))), (t0, .inr (5, [.ref t1, .int (nI ty)])), (t1, .inl (cI, 300, .inl (rI bt)))] H := hP
  have hD : va_D A [(k0, .inr (6, [.ref k1, .ref k2, .ref k3, .int (nI tz), .int (nI ta), .int (nI n1), .int (nI n1), .int (nI 0)])), (k1, .inl (cI, 301, .inl (rI tkk))), (k2, .inl (cI, 301, .inl (rI tkv))), (k3, .inl (cI, 301, .inl (rI tks))), (t0, .inr (5, [.ref t1, .int (nI ty)])), (t1, .inl (cI, 300, .inl (rI bt)))] := hD
  have hl : lv_has ls 3 [(0, .ref k0), (1, .ref t0)] := hl
  have w_0 := hts (.fieldLink RX7 28 "UnlikeRoofs$Tokens" "next" "I") (List.mem_of_getElem? (i := 1) (by rfl))
  have w_1 := hts (.fieldLink RX7 31 "UnlikeRoofs$Tokens" "value" "I") (List.mem_of_getElem? (i := 2) (by rfl))
  have w_2 := hts (.fieldLink RX7 38 "UnlikeRoofs$Tokens" "start" "I") (List.mem_of_getElem? (i := 7) (by rfl))
  have w_3 := hts (.methodLink RX7 91 Lib.Math.min.name) (List.mem_of_getElem? (i := 3) (by rfl))
  have w_4 := hts (.static Lib.Math.min.name) (List.mem_of_getElem? (i := 4) (by rfl))
  have w_5 := hts (.initialized "java/lang/Math") (List.mem_of_getElem? (i := 5) (by rfl))
  have w_6 := hts (.code Lib.Math.min.name Lib.Math.min.code 2 (some .int)) (List.mem_of_getElem? (i := 6) (by rfl))
  have wn_0 : (Cond.fieldLinkNest RX7 45 "UnlikeRoofs$Text" "length" "I" "UnlikeRoofs").before ([.ref k0, .ref t0] : List Value).toArray s = true := va_Nw.use rfl (hG.1 (.fieldLinkNest RX7 45 "UnlikeRoofs$Text" "length" "I" "UnlikeRoofs") (List.mem_of_getElem? (i := 1) (by rfl)))
  have hin_X6 : ∀ w ∈ wsX60, w ∈ wsX7_readNumber := fun _ h => List.mem_cons_of_mem _ (List.mem_append_right _ h)
  have hin_X7 : ∀ w ∈ wsX70, w ∈ wsX7_readNumber := fun _ h => List.mem_cons_of_mem _ (List.mem_append_left _ (List.mem_append_right _ h))
  have _h0 : True := trivial
  have L_0 : ∀ (fuel : Nat) (n2 : Nat) (cv : Nat), (n1 ≤ n2 ∧ n2 ≤ ty) → (dgE bt ty n2 = dgE bt ty n1) → (cv ≤ 100) → (cv = min 100 (rvN bt n1 (n2 - n1))) → (ty - n2) < fuel → ∀ (H : Heap) (locs : List Loc), va_P D vwCl [(k0, .inr (6, [.ref k1, .ref k2, .ref k3, .int (nI tz), .int (nI ta), .int (nI n1), .int (nI n2), .int (nI cv)])), (k1, .inl (cI, 301, .inl (rI tkk))), (k2, .inl (cI, 301, .inl (rI tkv))), (k3, .inl (cI, 301, .inl (rI tks))), (t0, .inr (5, [.ref t1, .int (nI ty)])), (t1, .inl (cI, 300, .inl (rI bt)))] H → va_D A [(k0, .inr (6, [.ref k1, .ref k2, .ref k3, .int (nI tz), .int (nI ta), .int (nI n1), .int (nI n2), .int (nI cv)])), (k1, .inl (cI, 301, .inl (rI tkk))), (k2, .inl (cI, 301, .inl (rI tkv))), (k3, .inl (cI, 301, .inl (rI tks))), (t0, .inr (5, [.ref t1, .int (nI ty)])), (t1, .inl (cI, 300, .inl (rI bt)))] → va_S A s.heap H locs → ∀ ls : Array Slot, lv_has ls 3 [(0, .ref k0), (1, .ref t0)] → W p l e (xRm 1 21) s m ([.ref k0, .ref t0] : List Value).toArray below meth c H locs 0 0 Q (F0 m 0 ls []) := by
    intro fuel
    induction fuel with
    | zero =>
      intro n2 cv h2 hdg hc hcv hm
      exact absurd hm (Nat.not_lt_zero _)
    | succ fuel ih_0 =>
      intro n2 cv h2 hdg hc hcv hm_0 H locs hP hD hS ls hl
      refine lv_aload_n hx hb dX7_readNumber_0 rfl (lv_at hl 0 rfl) ?_
      refine va_get (D := D) (ci := 6) (v := .int (nI n2)) (C := RX7) (T := TX7) (N := 8) hx hb hts hin_X7 hown hK hP 0 rfl rfl 6 (by decide) w_0 (fun _ h9 => h9) rfl dX7_readNumber_1 ?_
      refine lv_aload_n hx hb dX7_readNumber_4 rfl (lv_at hl 1 rfl) ?_
      refine va_getN (D := D) (ci := 5) (v := .int (nI ty)) (C := RX6) (T := TX6) (N := 2) hx hb hts hin_X6 hown hK hP 4 rfl rfl 1 (by decide) wn_0 (fun _ h9 => h9) rfl dX7_readNumber_5 ?_
      refine lv_icmp_ge (tgt := 66) hx hb dX7_readNumber_8 (by decide) (fun c_8 => ?_) (fun c_8 => ?_)
      ·
        have n_8 : ty ≤ n2 := (nI_leI (show ty < 2147483648 by omega) (show n2 < 2147483648 by omega)).1 c_8
        have hdg1 : dgE bt ty n1 = n2 := hdg.symm.trans (runE_stop (P := dgB bt ty) (by first | exact b_22 | exact decide_eq_false (fun q => absurd q.1 (by omega))) _)
        have hnu : cv = min 100 (nuN bt ty n1) := by rw [nuN, hdg1]; exact hcv
        have hb1 := hF n1 h1
        refine lv_aload_n hx hb dX7_readNumber_66 rfl (lv_at hl 1 rfl) ?_
        have L_97 : ∀ (zo : Bool), (zo = decide (bt n1 = 48 ∧ 1 < n2 - n1)) → ∀ (H : Heap) (locs : List Loc), va_P D vwCl [(k0, .inr (6, [.ref k1, .ref k2, .ref k3, .int (nI tz), .int (nI ta), .int (nI n1), .int (nI n2), .int (nI cv)])), (k1, .inl (cI, 301, .inl (rI tkk))), (k2, .inl (cI, 301, .inl (rI tkv))), (k3, .inl (cI, 301, .inl (rI tks))), (t0, .inr (5, [.ref t1, .int (nI ty)])), (t1, .inl (cI, 300, .inl (rI bt)))] H → va_D A [(k0, .inr (6, [.ref k1, .ref k2, .ref k3, .int (nI tz), .int (nI ta), .int (nI n1), .int (nI n2), .int (nI cv)])), (k1, .inl (cI, 301, .inl (rI tkk))), (k2, .inl (cI, 301, .inl (rI tkv))), (k3, .inl (cI, 301, .inl (rI tks))), (t0, .inr (5, [.ref t1, .int (nI ty)])), (t1, .inl (cI, 300, .inl (rI bt)))] → va_S A s.heap H locs → ∀ ls : Array Slot, lv_has ls 3 [(0, .ref k0), (1, .ref t0)] → W p l e (xRm 1 21) s m ([.ref k0, .ref t0] : List Value).toArray below meth c H locs 0 0 Q (F0 m 97 ls [.int (bb zo)]) := by
          intro zo hzo H locs hP hD hS ls hl
          refine lv_istore_n (lv' := [(2, .int (bb zo)), (0, .ref k0), (1, .ref t0)]) hx hb dX7_readNumber_97 rfl hl (by decide) rfl (fun ls hl => ?_)
          refine lv_aload_n hx hb dX7_readNumber_98 rfl (lv_at hl 1 rfl) ?_
          refine va_get (D := D) (ci := 6) (v := .int (nI cv)) (C := RX7) (T := TX7) (N := 8) hx hb hts hin_X7 hown hK hP 0 rfl rfl 7 (by decide) w_1 (fun _ h9 => h9) rfl dX7_readNumber_99 ?_
          refine lv_bipush (v := (99 : Int32)) hx hb dX7_readNumber_102 (by decide) ?_
          refine lv_icmp_gt (tgt := 111) hx hb dX7_readNumber_104 (by decide) (fun c_104 => ?_) (fun c_104 => ?_)
          ·
            have n_104 : 99 < cv := (nI_ltI (show 99 < 2147483648 by omega) (show cv < 2147483648 by omega)).1 c_104
            refine lv_iconst (v := (1 : Int32)) hx hb dX7_readNumber_111 (by decide) ?_
            refine lv_goto (tgt := 116) hx hb dX7_readNumber_112 (by decide) ?_
            exact hret _ (n2, cv) _ _ _ _ (rfl) (⟨by rw [nkN, hdg1, if_pos (Or.inl (by omega))]; rfl, hdg1.symm, hnu⟩) hP hD hS dX7_readNumber_116
          ·
            have n_104 : cv ≤ 99 := Nat.le_of_not_lt (fun q => c_104 ((nI_ltI (show 99 < 2147483648 by omega) (show cv < 2147483648 by omega)).2 q))
            refine lv_iload_n hx hb dX7_readNumber_107 rfl (lv_at hl 0 rfl) ?_
            refine lv_if_eq (tgt := 115) hx hb dX7_readNumber_108 (by decide) (fun c_108 => ?_) (fun c_108 => ?_)
            ·
              have b_108 : zo = false := bb_eq0 c_108
              refine lv_iconst (v := (3 : Int32)) hx hb dX7_readNumber_115 (by decide) ?_
              exact hret _ (n2, cv) _ _ _ _ (rfl) (⟨by rw [nkN, hdg1, if_neg (fun q => q.elim (fun q => by omega) (of_decide_eq_false (hzo.symm.trans b_108)))]; rfl, hdg1.symm, hnu⟩) hP hD hS dX7_readNumber_116
            ·
              have b_108 : zo = true := bb_neq0 c_108
              refine lv_iconst (v := (1 : Int32)) hx hb dX7_readNumber_111 (by decide) ?_
              refine lv_goto (tgt := 116) hx hb dX7_readNumber_112 (by decide) ?_
              exact hret _ (n2, cv) _ _ _ _ (rfl) (⟨by rw [nkN, hdg1, if_pos (Or.inr (of_decide_eq_true (hzo.symm.trans b_108)))]; rfl, hdg1.symm, hnu⟩) hP hD hS dX7_readNumber_116
        refine lv_aload_n hx hb dX7_readNumber_67 rfl (lv_at hl 0 rfl) ?_
        refine va_get (D := D) (ci := 6) (v := .int (nI n1)) (C := RX7) (T := TX7) (N := 8) hx hb hts hin_X7 hown hK hP 0 rfl rfl 5 (by decide) w_2 (fun _ h9 => h9) rfl dX7_readNumber_68 ?_
        refine xcV_i (As := [.int (nI n1)]) (rest := []) (wc := [(t0, .inr (5, [.ref t1, .int (nI ty)])), (t1, .inl (cI, 300, .inl (rI bt)))]) (wr := [(k0, .inr (6, [.ref k1, .ref k2, .ref k3, .int (nI tz), .int (nI ta), .int (nI n1), .int (nI n2), .int (nI cv)])), (k1, .inl (cI, 301, .inl (rI tkk))), (k2, .inl (cI, 301, .inl (rI tkv))), (k3, .inl (cI, 301, .inl (rI tks)))]) (w3 := fun (u : Unit) => [(k0, .inr (6, [.ref k1, .ref k2, .ref k3, .int (nI tz), .int (nI ta), .int (nI n1), .int (nI n2), .int (nI cv)])), (k1, .inl (cI, 301, .inl (rI tkk))), (k2, .inl (cI, 301, .inl (rI tkv))), (k3, .inl (cI, 301, .inl (rI tks))), (t0, .inr (5, [.ref t1, .int (nI ty)])), (t1, .inl (cI, 300, .inl (rI bt)))]) ⟨hx, hb, hml, hown, hts⟩ (c_X6_byteAt l D cI cZ cO H.size t0 t1 ty bt n1 (by first | assumption | omega | rfl) (by omega)) (cwV 1 hts gX7_readNumber_X6_byteAt rfl rfl rfl (by decide +kernel) ⟨Nat.le_of_ble_eq_true rfl, Nat.le_of_ble_eq_true rfl⟩) (xGdc gR gD gK gV) xGd0 (fun _ _ _ _ => trivial) hG hP hD hK hS hA [4, 5] [0, 1, 2, 3] [0, 1, 2, 3, 4, 5] rfl rfl rfl rfl rfl 4 rfl rfl rfl (fun _ => rfl) rfl rfl hl.1 (Nat.le_of_ble_eq_true rfl) dX7_readNumber_71 ⟨Nat.zero_le _, Nat.zero_le _⟩ (fun r u H locs hw hP hD hS => ?_)
        obtain ⟨rfl, hw⟩ := hw
        have hw_71 : True := hw
        have hP : va_P D vwCl [(k0, .inr (6, [.ref k1, .ref k2, .ref k3, .int (nI tz), .int (nI ta), .int (nI n1), .int (nI n2), .int (nI cv)])), (k1, .inl (cI, 301, .inl (rI tkk))), (k2, .inl (cI, 301, .inl (rI tkv))), (k3, .inl (cI, 301, .inl (rI tks))), (t0, .inr (5, [.ref t1, .int (nI ty)])), (t1, .inl (cI, 300, .inl (rI bt)))] H := hP
        have hD : va_D A [(k0, .inr (6, [.ref k1, .ref k2, .ref k3, .int (nI tz), .int (nI ta), .int (nI n1), .int (nI n2), .int (nI cv)])), (k1, .inl (cI, 301, .inl (rI tkk))), (k2, .inl (cI, 301, .inl (rI tkv))), (k3, .inl (cI, 301, .inl (rI tks))), (t0, .inr (5, [.ref t1, .int (nI ty)])), (t1, .inl (cI, 300, .inl (rI bt)))] := hD
        refine lv_topr (x' := nI (bt n1)) (if_pos h1) ?_
        refine lv_bipush (v := (48 : Int32)) hx hb dX7_readNumber_74 (by decide) ?_
        refine lv_icmp_ne (tgt := 96) hx hb dX7_readNumber_76 (by decide) (fun c_76 => ?_) (fun c_76 => ?_)
        ·
          have n_76 : ¬ (bt n1) = 48 := fun q => c_76 (congrArg nI q)
          refine lv_iconst (v := (0 : Int32)) hx hb dX7_readNumber_96 (by decide) ?_
          exact L_97 false ((decide_eq_false (fun q => n_76 q.1)).symm) _ _ hP hD hS _ (lv_sub hl [0, 1] rfl)
        ·
          have n_76 : (bt n1) = 48 := (nI_eq (show (bt n1) < 2147483648 by omega) (show 48 < 2147483648 by omega)).1 c_76
          refine lv_aload_n hx hb dX7_readNumber_79 rfl (lv_at hl 0 rfl) ?_
          refine va_get (D := D) (ci := 6) (v := .int (nI n2)) (C := RX7) (T := TX7) (N := 8) hx hb hts hin_X7 hown hK hP 0 rfl rfl 6 (by decide) w_0 (fun _ h9 => h9) rfl dX7_readNumber_80 ?_
          refine lv_aload_n hx hb dX7_readNumber_83 rfl (lv_at hl 0 rfl) ?_
          refine va_get (D := D) (ci := 6) (v := .int (nI n1)) (C := RX7) (T := TX7) (N := 8) hx hb hts hin_X7 hown hK hP 0 rfl rfl 5 (by decide) w_2 (fun _ h9 => h9) rfl dX7_readNumber_84 ?_
          refine lv_isub hx hb dX7_readNumber_87 ?_
          refine lv_topr (x' := nI (n2 - n1)) (pk_sub (by omega)) ?_
          refine lv_iconst (v := (1 : Int32)) hx hb dX7_readNumber_88 (by decide) ?_
          refine lv_icmp_le (tgt := 96) hx hb dX7_readNumber_89 (by decide) (fun c_89 => ?_) (fun c_89 => ?_)
          ·
            have n_89 : (n2 - n1) ≤ 1 := (nI_leI (show (n2 - n1) < 2147483648 by omega) (show 1 < 2147483648 by omega)).1 c_89
            refine lv_iconst (v := (0 : Int32)) hx hb dX7_readNumber_96 (by decide) ?_
            exact L_97 false ((decide_eq_false (fun q => absurd q.2 (by omega))).symm) _ _ hP hD hS _ (lv_sub hl [0, 1] rfl)
          ·
            have n_89 : 1 < (n2 - n1) := Nat.lt_of_not_le (fun q => c_89 ((nI_leI (show (n2 - n1) < 2147483648 by omega) (show 1 < 2147483648 by omega)).2 q))
            refine lv_iconst (v := (1 : Int32)) hx hb dX7_readNumber_92 (by decide) ?_
            refine lv_goto (tgt := 97) hx hb dX7_readNumber_93 (by decide) ?_
            exact L_97 true ((decide_eq_true ⟨n_76, n_89⟩).symm) _ _ hP hD hS _ (lv_sub hl [0, 1] rfl)
      ·
        have n_8 : n2 < ty := Nat.lt_of_not_le (fun q => c_8 ((nI_leI (show ty < 2147483648 by omega) (show n2 < 2147483648 by omega)).2 q))
        refine lv_aload_n hx hb dX7_readNumber_11 rfl (lv_at hl 1 rfl) ?_
        refine lv_aload_n hx hb dX7_readNumber_12 rfl (lv_at hl 0 rfl) ?_
        refine va_get (D := D) (ci := 6) (v := .int (nI n2)) (C := RX7) (T := TX7) (N := 8) hx hb hts hin_X7 hown hK hP 0 rfl rfl 6 (by decide) w_0 (fun _ h9 => h9) rfl dX7_readNumber_13 ?_
        refine xcV_i (As := [.int (nI n2)]) (rest := []) (wc := [(t0, .inr (5, [.ref t1, .int (nI ty)])), (t1, .inl (cI, 300, .inl (rI bt)))]) (wr := [(k0, .inr (6, [.ref k1, .ref k2, .ref k3, .int (nI tz), .int (nI ta), .int (nI n1), .int (nI n2), .int (nI cv)])), (k1, .inl (cI, 301, .inl (rI tkk))), (k2, .inl (cI, 301, .inl (rI tkv))), (k3, .inl (cI, 301, .inl (rI tks)))]) (w3 := fun (u : Unit) => [(k0, .inr (6, [.ref k1, .ref k2, .ref k3, .int (nI tz), .int (nI ta), .int (nI n1), .int (nI n2), .int (nI cv)])), (k1, .inl (cI, 301, .inl (rI tkk))), (k2, .inl (cI, 301, .inl (rI tkv))), (k3, .inl (cI, 301, .inl (rI tks))), (t0, .inr (5, [.ref t1, .int (nI ty)])), (t1, .inl (cI, 300, .inl (rI bt)))]) ⟨hx, hb, hml, hown, hts⟩ (c_X6_byteAt l D cI cZ cO H.size t0 t1 ty bt n2 (by first | assumption | omega | rfl) (by omega)) (cwV 1 hts gX7_readNumber_X6_byteAt rfl rfl rfl (by decide +kernel) ⟨Nat.le_of_ble_eq_true rfl, Nat.le_of_ble_eq_true rfl⟩) (xGdc gR gD gK gV) xGd0 (fun _ _ _ _ => trivial) hG hP hD hK hS hA [4, 5] [0, 1, 2, 3] [0, 1, 2, 3, 4, 5] rfl rfl rfl rfl rfl 4 rfl rfl rfl (fun _ => rfl) rfl rfl hl.1 (Nat.le_of_ble_eq_true rfl) dX7_readNumber_16 ⟨Nat.zero_le _, Nat.zero_le _⟩ (fun r u H locs hw hP hD hS => ?_)
        obtain ⟨rfl, hw⟩ := hw
        have hw_16 : True := hw
        have hP : va_P D vwCl [(k0, .inr (6, [.ref k1, .ref k2, .ref k3, .int (nI tz), .int (nI ta), .int (nI n1), .int (nI n2), .int (nI cv)])), (k1, .inl (cI, 301, .inl (rI tkk))), (k2, .inl (cI, 301, .inl (rI tkv))), (k3, .inl (cI, 301, .inl (rI tks))), (t0, .inr (5, [.ref t1, .int (nI ty)])), (t1, .inl (cI, 300, .inl (rI bt)))] H := hP
        have hD : va_D A [(k0, .inr (6, [.ref k1, .ref k2, .ref k3, .int (nI tz), .int (nI ta), .int (nI n1), .int (nI n2), .int (nI cv)])), (k1, .inl (cI, 301, .inl (rI tkk))), (k2, .inl (cI, 301, .inl (rI tkv))), (k3, .inl (cI, 301, .inl (rI tks))), (t0, .inr (5, [.ref t1, .int (nI ty)])), (t1, .inl (cI, 300, .inl (rI bt)))] := hD
        refine xcS_i (As := [.int (if n2 < ty then nI (bt n2) else (-9))]) (rest := []) (wc := []) (wr := [(k0, .inr (6, [.ref k1, .ref k2, .ref k3, .int (nI tz), .int (nI ta), .int (nI n1), .int (nI n2), .int (nI cv)])), (k1, .inl (cI, 301, .inl (rI tkk))), (k2, .inl (cI, 301, .inl (rI tkv))), (k3, .inl (cI, 301, .inl (rI tks))), (t0, .inr (5, [.ref t1, .int (nI ty)])), (t1, .inl (cI, 300, .inl (rI bt)))]) (w3 := fun (u : Unit) => [(k0, .inr (6, [.ref k1, .ref k2, .ref k3, .int (nI tz), .int (nI ta), .int (nI n1), .int (nI n2), .int (nI cv)])), (k1, .inl (cI, 301, .inl (rI tkk))), (k2, .inl (cI, 301, .inl (rI tkv))), (k3, .inl (cI, 301, .inl (rI tks))), (t0, .inr (5, [.ref t1, .int (nI ty)])), (t1, .inl (cI, 300, .inl (rI bt)))]) ⟨hx, hb, hml, hown, hts⟩ (c_X7_isDigit l D cI cZ cO H.size gR gD gK gV (if n2 < ty then nI (bt n2) else (-9)) ) (va_cwS 1 hts gX7_readNumber_X7_isDigit rfl rfl rfl (by decide +kernel) ⟨Nat.le_of_ble_eq_true rfl, Nat.le_of_ble_eq_true rfl⟩) (xGdc gR gD gK gV) (xGdc gR gD gK gV) (fun _ _ _ h => h) hG hP hD hK hS hA [] [0, 1, 2, 3, 4, 5] [0, 1, 2, 3, 4, 5] rfl rfl rfl rfl rfl rfl (fun _ => rfl) rfl rfl hl.1 (Nat.le_of_ble_eq_true rfl) dX7_readNumber_19 ⟨Nat.zero_le _, Nat.zero_le _⟩ (fun r u H locs hw hP hD hS => ?_)
        obtain ⟨rfl, hw⟩ := hw
        have hw_19 : True := hw
        have hP : va_P D vwCl [(k0, .inr (6, [.ref k1, .ref k2, .ref k3, .int (nI tz), .int (nI ta), .int (nI n1), .int (nI n2), .int (nI cv)])), (k1, .inl (cI, 301, .inl (rI tkk))), (k2, .inl (cI, 301, .inl (rI tkv))), (k3, .inl (cI, 301, .inl (rI tks))), (t0, .inr (5, [.ref t1, .int (nI ty)])), (t1, .inl (cI, 300, .inl (rI bt)))] H := hP
        have hD : va_D A [(k0, .inr (6, [.ref k1, .ref k2, .ref k3, .int (nI tz), .int (nI ta), .int (nI n1), .int (nI n2), .int (nI cv)])), (k1, .inl (cI, 301, .inl (rI tkk))), (k2, .inl (cI, 301, .inl (rI tkv))), (k3, .inl (cI, 301, .inl (rI tks))), (t0, .inr (5, [.ref t1, .int (nI ty)])), (t1, .inl (cI, 300, .inl (rI bt)))] := hD
        refine lv_topr (x' := bb (dgB bt ty n2)) (congrArg bb (cin_dg hF)) ?_
        refine lv_if_eq (tgt := 66) hx hb dX7_readNumber_22 (by decide) (fun c_22 => ?_) (fun c_22 => ?_)
        ·
          have b_22 : (dgB bt ty n2) = false := bb_eq0 c_22
          have hdg1 : dgE bt ty n1 = n2 := hdg.symm.trans (runE_stop (P := dgB bt ty) (by first | exact b_22 | exact decide_eq_false (fun q => absurd q.1 (by omega))) _)
          have hnu : cv = min 100 (nuN bt ty n1) := by rw [nuN, hdg1]; exact hcv
          have hb1 := hF n1 h1
          refine lv_aload_n hx hb dX7_readNumber_66 rfl (lv_at hl 1 rfl) ?_
          have L_97 : ∀ (zo : Bool), (zo = decide (bt n1 = 48 ∧ 1 < n2 - n1)) → ∀ (H : Heap) (locs : List Loc), va_P D vwCl [(k0, .inr (6, [.ref k1, .ref k2, .ref k3, .int (nI tz), .int (nI ta), .int (nI n1), .int (nI n2), .int (nI cv)])), (k1, .inl (cI, 301, .inl (rI tkk))), (k2, .inl (cI, 301, .inl (rI tkv))), (k3, .inl (cI, 301, .inl (rI tks))), (t0, .inr (5, [.ref t1, .int (nI ty)])), (t1, .inl (cI, 300, .inl (rI bt)))] H → va_D A [(k0, .inr (6, [.ref k1, .ref k2, .ref k3, .int (nI tz), .int (nI ta), .int (nI n1), .int (nI n2), .int (nI cv)])), (k1, .inl (cI, 301, .inl (rI tkk))), (k2, .inl (cI, 301, .inl (rI tkv))), (k3, .inl (cI, 301, .inl (rI tks))), (t0, .inr (5, [.ref t1, .int (nI ty)])), (t1, .inl (cI, 300, .inl (rI bt)))] → va_S A s.heap H locs → ∀ ls : Array Slot, lv_has ls 3 [(0, .ref k0), (1, .ref t0)] → W p l e (xRm 1 21) s m ([.ref k0, .ref t0] : List Value).toArray below meth c H locs 0 0 Q (F0 m 97 ls [.int (bb zo)]) := by
            intro zo hzo H locs hP hD hS ls hl
            refine lv_istore_n (lv' := [(2, .int (bb zo)), (0, .ref k0), (1, .ref t0)]) hx hb dX7_readNumber_97 rfl hl (by decide) rfl (fun ls hl => ?_)
            refine lv_aload_n hx hb dX7_readNumber_98 rfl (lv_at hl 1 rfl) ?_
            refine va_get (D := D) (ci := 6) (v := .int (nI cv)) (C := RX7) (T := TX7) (N := 8) hx hb hts hin_X7 hown hK hP 0 rfl rfl 7 (by decide) w_1 (fun _ h9 => h9) rfl dX7_readNumber_99 ?_
            refine lv_bipush (v := (99 : Int32)) hx hb dX7_readNumber_102 (by decide) ?_
            refine lv_icmp_gt (tgt := 111) hx hb dX7_readNumber_104 (by decide) (fun c_104 => ?_) (fun c_104 => ?_)
            ·
              have n_104 : 99 < cv := (nI_ltI (show 99 < 2147483648 by omega) (show cv < 2147483648 by omega)).1 c_104
              refine lv_iconst (v := (1 : Int32)) hx hb dX7_readNumber_111 (by decide) ?_
              refine lv_goto (tgt := 116) hx hb dX7_readNumber_112 (by decide) ?_
              exact hret _ (n2, cv) _ _ _ _ (rfl) (⟨by rw [nkN, hdg1, if_pos (Or.inl (by omega))]; rfl, hdg1.symm, hnu⟩) hP hD hS dX7_readNumber_116
            ·
              have n_104 : cv ≤ 99 := Nat.le_of_not_lt (fun q => c_104 ((nI_ltI (show 99 < 2147483648 by omega) (show cv < 2147483648 by omega)).2 q))
              refine lv_iload_n hx hb dX7_readNumber_107 rfl (lv_at hl 0 rfl) ?_
              refine lv_if_eq (tgt := 115) hx hb dX7_readNumber_108 (by decide) (fun c_108 => ?_) (fun c_108 => ?_)
              ·
                have b_108 : zo = false := bb_eq0 c_108
                refine lv_iconst (v := (3 : Int32)) hx hb dX7_readNumber_115 (by decide) ?_
                exact hret _ (n2, cv) _ _ _ _ (rfl) (⟨by rw [nkN, hdg1, if_neg (fun q => q.elim (fun q => by omega) (of_decide_eq_false (hzo.symm.trans b_108)))]; rfl, hdg1.symm, hnu⟩) hP hD hS dX7_readNumber_116
              ·
                have b_108 : zo = true := bb_neq0 c_108
                refine lv_iconst (v := (1 : Int32)) hx hb dX7_readNumber_111 (by decide) ?_
                refine lv_goto (tgt := 116) hx hb dX7_readNumber_112 (by decide) ?_
                exact hret _ (n2, cv) _ _ _ _ (rfl) (⟨by rw [nkN, hdg1, if_pos (Or.inr (of_decide_eq_true (hzo.symm.trans b_108)))]; rfl, hdg1.symm, hnu⟩) hP hD hS dX7_readNumber_116
          refine lv_aload_n hx hb dX7_readNumber_67 rfl (lv_at hl 0 rfl) ?_
          refine va_get (D := D) (ci := 6) (v := .int (nI n1)) (C := RX7) (T := TX7) (N := 8) hx hb hts hin_X7 hown hK hP 0 rfl rfl 5 (by decide) w_2 (fun _ h9 => h9) rfl dX7_readNumber_68 ?_
          refine xcV_i (As := [.int (nI n1)]) (rest := []) (wc := [(t0, .inr (5, [.ref t1, .int (nI ty)])), (t1, .inl (cI, 300, .inl (rI bt)))]) (wr := [(k0, .inr (6, [.ref k1, .ref k2, .ref k3, .int (nI tz), .int (nI ta), .int (nI n1), .int (nI n2), .int (nI cv)])), (k1, .inl (cI, 301, .inl (rI tkk))), (k2, .inl (cI, 301, .inl (rI tkv))), (k3, .inl (cI, 301, .inl (rI tks)))]) (w3 := fun (u : Unit) => [(k0, .inr (6, [.ref k1, .ref k2, .ref k3, .int (nI tz), .int (nI ta), .int (nI n1), .int (nI n2), .int (nI cv)])), (k1, .inl (cI, 301, .inl (rI tkk))), (k2, .inl (cI, 301, .inl (rI tkv))), (k3, .inl (cI, 301, .inl (rI tks))), (t0, .inr (5, [.ref t1, .int (nI ty)])), (t1, .inl (cI, 300, .inl (rI bt)))]) ⟨hx, hb, hml, hown, hts⟩ (c_X6_byteAt l D cI cZ cO H.size t0 t1 ty bt n1 (by first | assumption | omega | rfl) (by omega)) (cwV 1 hts gX7_readNumber_X6_byteAt rfl rfl rfl (by decide +kernel) ⟨Nat.le_of_ble_eq_true rfl, Nat.le_of_ble_eq_true rfl⟩) (xGdc gR gD gK gV) xGd0 (fun _ _ _ _ => trivial) hG hP hD hK hS hA [4, 5] [0, 1, 2, 3] [0, 1, 2, 3, 4, 5] rfl rfl rfl rfl rfl 4 rfl rfl rfl (fun _ => rfl) rfl rfl hl.1 (Nat.le_of_ble_eq_true rfl) dX7_readNumber_71 ⟨Nat.zero_le _, Nat.zero_le _⟩ (fun r u H locs hw hP hD hS => ?_)
          obtain ⟨rfl, hw⟩ := hw
          have hw_71 : True := hw
          have hP : va_P D vwCl [(k0, .inr (6, [.ref k1, .ref k2, .ref k3, .int (nI tz), .int (nI ta), .int (nI n1), .int (nI n2), .int (nI cv)])), (k1, .inl (cI, 301, .inl (rI tkk))), (k2, .inl (cI, 301, .inl (rI tkv))), (k3, .inl (cI, 301, .inl (rI tks))), (t0, .inr (5, [.ref t1, .int (nI ty)])), (t1, .inl (cI, 300, .inl (rI bt)))] H := hP
          have hD : va_D A [(k0, .inr (6, [.ref k1, .ref k2, .ref k3, .int (nI tz), .int (nI ta), .int (nI n1), .int (nI n2), .int (nI cv)])), (k1, .inl (cI, 301, .inl (rI tkk))), (k2, .inl (cI, 301, .inl (rI tkv))), (k3, .inl (cI, 301, .inl (rI tks))), (t0, .inr (5, [.ref t1, .int (nI ty)])), (t1, .inl (cI, 300, .inl (rI bt)))] := hD
          refine lv_topr (x' := nI (bt n1)) (if_pos h1) ?_
          refine lv_bipush (v := (48 : Int32)) hx hb dX7_readNumber_74 (by decide) ?_
          refine lv_icmp_ne (tgt := 96) hx hb dX7_readNumber_76 (by decide) (fun c_76 => ?_) (fun c_76 => ?_)
          ·
            have n_76 : ¬ (bt n1) = 48 := fun q => c_76 (congrArg nI q)
            refine lv_iconst (v := (0 : Int32)) hx hb dX7_readNumber_96 (by decide) ?_
            exact L_97 false ((decide_eq_false (fun q => n_76 q.1)).symm) _ _ hP hD hS _ (lv_sub hl [0, 1] rfl)
          ·
            have n_76 : (bt n1) = 48 := (nI_eq (show (bt n1) < 2147483648 by omega) (show 48 < 2147483648 by omega)).1 c_76
            refine lv_aload_n hx hb dX7_readNumber_79 rfl (lv_at hl 0 rfl) ?_
            refine va_get (D := D) (ci := 6) (v := .int (nI n2)) (C := RX7) (T := TX7) (N := 8) hx hb hts hin_X7 hown hK hP 0 rfl rfl 6 (by decide) w_0 (fun _ h9 => h9) rfl dX7_readNumber_80 ?_
            refine lv_aload_n hx hb dX7_readNumber_83 rfl (lv_at hl 0 rfl) ?_
            refine va_get (D := D) (ci := 6) (v := .int (nI n1)) (C := RX7) (T := TX7) (N := 8) hx hb hts hin_X7 hown hK hP 0 rfl rfl 5 (by decide) w_2 (fun _ h9 => h9) rfl dX7_readNumber_84 ?_
            refine lv_isub hx hb dX7_readNumber_87 ?_
            refine lv_topr (x' := nI (n2 - n1)) (pk_sub (by omega)) ?_
            refine lv_iconst (v := (1 : Int32)) hx hb dX7_readNumber_88 (by decide) ?_
            refine lv_icmp_le (tgt := 96) hx hb dX7_readNumber_89 (by decide) (fun c_89 => ?_) (fun c_89 => ?_)
            ·
              have n_89 : (n2 - n1) ≤ 1 := (nI_leI (show (n2 - n1) < 2147483648 by omega) (show 1 < 2147483648 by omega)).1 c_89
              refine lv_iconst (v := (0 : Int32)) hx hb dX7_readNumber_96 (by decide) ?_
              exact L_97 false ((decide_eq_false (fun q => absurd q.2 (by omega))).symm) _ _ hP hD hS _ (lv_sub hl [0, 1] rfl)
            ·
              have n_89 : 1 < (n2 - n1) := Nat.lt_of_not_le (fun q => c_89 ((nI_leI (show (n2 - n1) < 2147483648 by omega) (show 1 < 2147483648 by omega)).2 q))
              refine lv_iconst (v := (1 : Int32)) hx hb dX7_readNumber_92 (by decide) ?_
              refine lv_goto (tgt := 97) hx hb dX7_readNumber_93 (by decide) ?_
              exact L_97 true ((decide_eq_true ⟨n_76, n_89⟩).symm) _ _ hP hD hS _ (lv_sub hl [0, 1] rfl)
        ·
          have b_22 : (dgB bt ty n2) = true := bb_neq0 c_22
          have hd2 := of_decide_eq_true b_22
          refine lv_aload_n hx hb dX7_readNumber_25 rfl (lv_at hl 0 rfl) ?_
          refine lv_bipush (v := (100 : Int32)) hx hb dX7_readNumber_26 (by decide) ?_
          refine lv_aload_n hx hb dX7_readNumber_28 rfl (lv_at hl 0 rfl) ?_
          refine va_get (D := D) (ci := 6) (v := .int (nI cv)) (C := RX7) (T := TX7) (N := 8) hx hb hts hin_X7 hown hK hP 0 rfl rfl 7 (by decide) w_1 (fun _ h9 => h9) rfl dX7_readNumber_29 ?_
          refine lv_bipush (v := (10 : Int32)) hx hb dX7_readNumber_32 (by decide) ?_
          refine lv_imul hx hb dX7_readNumber_34 ?_
          refine lv_topr (x' := nI (cv * 10)) (pk_mul cv 10) ?_
          refine lv_aload_n hx hb dX7_readNumber_35 rfl (lv_at hl 1 rfl) ?_
          refine lv_aload_n hx hb dX7_readNumber_36 rfl (lv_at hl 0 rfl) ?_
          refine va_get (D := D) (ci := 6) (v := .int (nI n2)) (C := RX7) (T := TX7) (N := 8) hx hb hts hin_X7 hown hK hP 0 rfl rfl 6 (by decide) w_0 (fun _ h9 => h9) rfl dX7_readNumber_37 ?_
          refine xcV_i (As := [.int (nI n2)]) (rest := [.int (nI (cv * 10)), .int (100 : Int32), .ref k0]) (wc := [(t0, .inr (5, [.ref t1, .int (nI ty)])), (t1, .inl (cI, 300, .inl (rI bt)))]) (wr := [(k0, .inr (6, [.ref k1, .ref k2, .ref k3, .int (nI tz), .int (nI ta), .int (nI n1), .int (nI n2), .int (nI cv)])), (k1, .inl (cI, 301, .inl (rI tkk))), (k2, .inl (cI, 301, .inl (rI tkv))), (k3, .inl (cI, 301, .inl (rI tks)))]) (w3 := fun (u : Unit) => [(k0, .inr (6, [.ref k1, .ref k2, .ref k3, .int (nI tz), .int (nI ta), .int (nI n1), .int (nI n2), .int (nI cv)])), (k1, .inl (cI, 301, .inl (rI tkk))), (k2, .inl (cI, 301, .inl (rI tkv))), (k3, .inl (cI, 301, .inl (rI tks))), (t0, .inr (5, [.ref t1, .int (nI ty)])), (t1, .inl (cI, 300, .inl (rI bt)))]) ⟨hx, hb, hml, hown, hts⟩ (c_X6_byteAt l D cI cZ cO H.size t0 t1 ty bt n2 (by first | assumption | omega | rfl) (by omega)) (cwV 1 hts gX7_readNumber_X6_byteAt rfl rfl rfl (by decide +kernel) ⟨Nat.le_of_ble_eq_true rfl, Nat.le_of_ble_eq_true rfl⟩) (xGdc gR gD gK gV) xGd0 (fun _ _ _ _ => trivial) hG hP hD hK hS hA [4, 5] [0, 1, 2, 3] [0, 1, 2, 3, 4, 5] rfl rfl rfl rfl rfl 4 rfl rfl rfl (fun _ => rfl) rfl rfl hl.1 (Nat.le_of_ble_eq_true rfl) dX7_readNumber_40 ⟨Nat.zero_le _, Nat.zero_le _⟩ (fun r u H locs hw hP hD hS => ?_)
          obtain ⟨rfl, hw⟩ := hw
          have hw_40 : True := hw
          have hP : va_P D vwCl [(k0, .inr (6, [.ref k1, .ref k2, .ref k3, .int (nI tz), .int (nI ta), .int (nI n1), .int (nI n2), .int (nI cv)])), (k1, .inl (cI, 301, .inl (rI tkk))), (k2, .inl (cI, 301, .inl (rI tkv))), (k3, .inl (cI, 301, .inl (rI tks))), (t0, .inr (5, [.ref t1, .int (nI ty)])), (t1, .inl (cI, 300, .inl (rI bt)))] H := hP
          have hD : va_D A [(k0, .inr (6, [.ref k1, .ref k2, .ref k3, .int (nI tz), .int (nI ta), .int (nI n1), .int (nI n2), .int (nI cv)])), (k1, .inl (cI, 301, .inl (rI tkk))), (k2, .inl (cI, 301, .inl (rI tkv))), (k3, .inl (cI, 301, .inl (rI tks))), (t0, .inr (5, [.ref t1, .int (nI ty)])), (t1, .inl (cI, 300, .inl (rI bt)))] := hD
          refine lv_topr (x' := nI (bt n2)) (if_pos hd2.1) ?_
          refine lv_iadd hx hb dX7_readNumber_43 ?_
          refine lv_topr (x' := nI ((cv * 10) + (bt n2))) (nI_add (cv * 10) (bt n2)) ?_
          refine lv_bipush (v := (48 : Int32)) hx hb dX7_readNumber_44 (by decide) ?_
          refine lv_isub hx hb dX7_readNumber_46 ?_
          refine lv_topr (x' := nI (cv * 10 + bt n2 - 48)) (pk_sub (show 48 ≤ cv * 10 + bt n2 by omega)) ?_
          refine va_mmin hx hb (hml.trans hl.1.symm) hown w_3 w_4 w_5 w_6 (Nat.le_of_ble_eq_true rfl) (Nat.le_of_ble_eq_true rfl) (Nat.zero_le _) (Nat.zero_le _) dX7_readNumber_47 ?_
          refine lv_topr (x' := xmin (100 : Int32) (nI (cv * 10 + bt n2 - 48))) (by rfl) ?_
          refine lv_topr (x' := nI (min 100 (cv * 10 + bt n2 - 48))) (xmin_nI (a := 100) (by decide) (by have := hF n2 hd2.1; omega)) ?_
          refine va_put (D := D) (ci := 6) (v := .int (nI (min 100 (cv * 10 + bt n2 - 48)))) (ty := .int) (C := RX7) (T := TX7) (N := 8) hx hb hts hin_X7 tyX7 tyX7_ok nmX7 hown hK hP hD hS 0 rfl rfl 7 (by decide) w_1 (fun _ h9 => h9) rfl (by decide +kernel) rfl rfl (Nat.le_of_ble_eq_true rfl) dX7_readNumber_50 (fun H locs hP hD hS => ?_)
          have hP : va_P D vwCl [(k0, .inr (6, [.ref k1, .ref k2, .ref k3, .int (nI tz), .int (nI ta), .int (nI n1), .int (nI n2), .int (nI (min 100 (cv * 10 + bt n2 - 48)))])), (k1, .inl (cI, 301, .inl (rI tkk))), (k2, .inl (cI, 301, .inl (rI tkv))), (k3, .inl (cI, 301, .inl (rI tks))), (t0, .inr (5, [.ref t1, .int (nI ty)])), (t1, .inl (cI, 300, .inl (rI bt)))] H := hP
          have hD : va_D A [(k0, .inr (6, [.ref k1, .ref k2, .ref k3, .int (nI tz), .int (nI ta), .int (nI n1), .int (nI n2), .int (nI (min 100 (cv * 10 + bt n2 - 48)))])), (k1, .inl (cI, 301, .inl (rI tkk))), (k2, .inl (cI, 301, .inl (rI tkv))), (k3, .inl (cI, 301, .inl (rI tks))), (t0, .inr (5, [.ref t1, .int (nI ty)])), (t1, .inl (cI, 300, .inl (rI bt)))] := hD
          refine lv_aload_n hx hb dX7_readNumber_53 rfl (lv_at hl 0 rfl) ?_
          refine lv_dup hx hb dX7_readNumber_54 rfl ?_
          refine va_get (D := D) (ci := 6) (v := .int (nI n2)) (C := RX7) (T := TX7) (N := 8) hx hb hts hin_X7 hown hK hP 0 rfl rfl 6 (by decide) w_0 (fun _ h9 => h9) rfl dX7_readNumber_55 ?_
          refine lv_iconst (v := (1 : Int32)) hx hb dX7_readNumber_58 (by decide) ?_
          refine lv_iadd hx hb dX7_readNumber_59 ?_
          refine lv_topr (x' := nI (n2 + 1)) (nI_add n2 1) ?_
          refine va_put (D := D) (ci := 6) (v := .int (nI (n2 + 1))) (ty := .int) (C := RX7) (T := TX7) (N := 8) hx hb hts hin_X7 tyX7 tyX7_ok nmX7 hown hK hP hD hS 0 rfl rfl 6 (by decide) w_0 (fun _ h9 => h9) rfl (by decide +kernel) rfl rfl (Nat.le_of_ble_eq_true rfl) dX7_readNumber_60 (fun H locs hP hD hS => ?_)
          have hP : va_P D vwCl [(k0, .inr (6, [.ref k1, .ref k2, .ref k3, .int (nI tz), .int (nI ta), .int (nI n1), .int (nI (n2 + 1)), .int (nI (min 100 (cv * 10 + bt n2 - 48)))])), (k1, .inl (cI, 301, .inl (rI tkk))), (k2, .inl (cI, 301, .inl (rI tkv))), (k3, .inl (cI, 301, .inl (rI tks))), (t0, .inr (5, [.ref t1, .int (nI ty)])), (t1, .inl (cI, 300, .inl (rI bt)))] H := hP
          have hD : va_D A [(k0, .inr (6, [.ref k1, .ref k2, .ref k3, .int (nI tz), .int (nI ta), .int (nI n1), .int (nI (n2 + 1)), .int (nI (min 100 (cv * 10 + bt n2 - 48)))])), (k1, .inl (cI, 301, .inl (rI tkk))), (k2, .inl (cI, 301, .inl (rI tkv))), (k3, .inl (cI, 301, .inl (rI tks))), (t0, .inr (5, [.ref t1, .int (nI ty)])), (t1, .inl (cI, 300, .inl (rI bt)))] := hD
          refine lv_goto (tgt := 0) hx hb dX7_readNumber_63 (by decide) ?_
          exact ih_0 (n2 + 1) (min 100 (cv * 10 + bt n2 - 48)) (by omega) ((runE_go (P := dgB bt ty) b_22 hd2.1).symm.trans hdg) (Nat.min_le_left _ _) (rv_min h2.1 hcv hd2.2.1) (by omega) _ _ hP hD hS _ (lv_sub hl [0, 1] rfl)
  exact L_0 (Nat.succ (ty - n1)) n1 0 (⟨Nat.le_refl _, by omega⟩) (rfl) (by decide) (by rw [Nat.sub_self]; rfl) (Nat.lt_succ_self _) _ _ hP hD hS _ (lv_sub hl [0, 1] rfl)
