set_option maxHeartbeats 4000000 in
set_option maxRecDepth 100000 in
theorem c_J0_coder_7d493 (l : Launch) (D : va_G) (cI cZ cO : ClassId) (sz : Nat) (gR : Nat) (gD : Nat) (gK : Nat → Nat) (gV : Nat → Nat) (i : Nat) (hi : i < 10) : xMi l yJ0_coder_7d493 wsJ0_coder_7d493 (0) (0) D (TY cI cZ cO) (xGc gR gD gK gV) [.ref (gK i)] [] sz (fun (rv_ : Int32) (u : Unit) => rv_ = (0 : Int32) ∧ (True)) (fun (u : Unit) => []) := by
  refine xMi.of (cc := cJ0_coder_7d493) (maxL := 1) (by decide +kernel) rfl (Nat.le_of_ble_eq_true rfl) ?_
  intro p e s m below meth c A Q H hx hb hml hown hts hA hP hD hK hS hG hret ls hl
  have hown : s.vm.findClass RJ0 = some m.cls := hown
  have hP : va_P D vwCl [] H := hP
  have hD : va_D A [] := hD
  have hl : lv_has ls 1 [(0, .ref (gK i))] := hl
  have w_0 := hts (.fieldLink RJ0 38 "java/lang/String" "COMPACT_STRINGS" "Z") (List.mem_of_getElem? (i := 1) (by rfl))
  have w_1 := hts (.fieldLink RJ0 15 "java/lang/String" "coder" "B") (List.mem_of_getElem? (i := 2) (by rfl))
  have _h0 : True := trivial
  refine va_gets hx hb hG.2.2.2.2.2.1 hS hown w_0 (fun _ h9 => h9) dJ0_coder_7d493_0 ?_
  refine lv_if_eq (tgt := 13) hx hb dJ0_coder_7d493_3 (by decide) (fun c_3 => ?_) (fun c_3 => ?_)
  ·
    exact absurd c_3 (by decide)
  ·
    refine lv_aload_n hx hb dJ0_coder_7d493_6 rfl (lv_at hl 0 rfl) ?_
    refine vk_getf hx hb (hG.2.2.2.1.1 i (by assumption)).2.1 hS hown w_1 (fun _ h9 => h9) dJ0_coder_7d493_7 ?_
    refine lv_goto (tgt := 14) hx hb dJ0_coder_7d493_10 (by decide) ?_
    exact hret _ () _ _ _ _ (rfl) (⟨rfl, trivial⟩) hP hD hS dJ0_coder_7d493_14

set_option maxHeartbeats 4000000 in
set_option maxRecDepth 100000 in
theorem c_J0_isLatin1_aae02 (l : Launch) (D : va_G) (cI cZ cO : ClassId) (sz : Nat) (gR : Nat) (gD : Nat) (gK : Nat → Nat) (gV : Nat → Nat) (i : Nat) (hi : i < 10) : xMi l yJ0_isLatin1_aae02 wsJ0_isLatin1_aae02 (0) (0) D (TY cI cZ cO) (xGc gR gD gK gV) [.ref (gK i)] [] sz (fun (rv_ : Int32) (u : Unit) => rv_ = (1 : Int32) ∧ (True)) (fun (u : Unit) => []) := by
  refine xMi.of (cc := cJ0_isLatin1_aae02) (maxL := 1) (by decide +kernel) rfl (Nat.le_of_ble_eq_true rfl) ?_
  intro p e s m below meth c A Q H hx hb hml hown hts hA hP hD hK hS hG hret ls hl
  have hown : s.vm.findClass RJ0 = some m.cls := hown
  have hP : va_P D vwCl [] H := hP
  have hD : va_D A [] := hD
  have hl : lv_has ls 1 [(0, .ref (gK i))] := hl
  have w_0 := hts (.fieldLink RJ0 38 "java/lang/String" "COMPACT_STRINGS" "Z") (List.mem_of_getElem? (i := 1) (by rfl))
  have w_1 := hts (.fieldLink RJ0 15 "java/lang/String" "coder" "B") (List.mem_of_getElem? (i := 2) (by rfl))
  have _h0 : True := trivial
  refine va_gets hx hb hG.2.2.2.2.2.1 hS hown w_0 (fun _ h9 => h9) dJ0_isLatin1_aae02_0 ?_
  refine lv_if_eq (tgt := 17) hx hb dJ0_isLatin1_aae02_3 (by decide) (fun c_3 => ?_) (fun c_3 => ?_)
  ·
    exact absurd c_3 (by decide)
  ·
    refine lv_aload_n hx hb dJ0_isLatin1_aae02_6 rfl (lv_at hl 0 rfl) ?_
    refine vk_getf hx hb (hG.2.2.2.1.1 i (by assumption)).2.1 hS hown w_1 (fun _ h9 => h9) dJ0_isLatin1_aae02_7 ?_
    refine lv_if_ne (tgt := 17) hx hb dJ0_isLatin1_aae02_10 (by decide) (fun c_10 => ?_) (fun c_10 => ?_)
    ·
      exact absurd c_10 (by decide)
    ·
      refine lv_iconst (v := (1 : Int32)) hx hb dJ0_isLatin1_aae02_13 (by decide) ?_
      refine lv_goto (tgt := 18) hx hb dJ0_isLatin1_aae02_14 (by decide) ?_
      exact hret _ () _ _ _ _ (rfl) (⟨rfl, trivial⟩) hP hD hS dJ0_isLatin1_aae02_18

set_option maxHeartbeats 4000000 in
set_option maxRecDepth 100000 in
theorem c_J0_length_8abf5 (l : Launch) (D : va_G) (cI cZ cO : ClassId) (sz : Nat) (gR : Nat) (gD : Nat) (gK : Nat → Nat) (gV : Nat → Nat) (i : Nat) (hi : i < 10) : xMi l yJ0_length_8abf5 wsJ0_length_8abf5 (1) (20) D (TY cI cZ cO) (xGc gR gD gK gV) [.ref (gK i)] [] sz (fun (rv_ : Int32) (u : Unit) => rv_ = (nI (wlN i)) ∧ (True)) (fun (u : Unit) => []) := by
  refine xMi.of (cc := cJ0_length_8abf5) (maxL := 1) (by decide +kernel) rfl (Nat.le_of_ble_eq_true rfl) ?_
  intro p e s m below meth c A Q H hx hb hml hown hts hA hP hD hK hS hG hret ls hl
  have hown : s.vm.findClass RJ0 = some m.cls := hown
  have hP : va_P D vwCl [] H := hP
  have hD : va_D A [] := hD
  have hl : lv_has ls 1 [(0, .ref (gK i))] := hl
  have w_0 := hts (.fieldLink RJ0 9 "java/lang/String" "value" "[B") (List.mem_of_getElem? (i := 1) (by rfl))
  have _h0 : True := trivial
  refine lv_aload_n hx hb dJ0_length_8abf5_0 rfl (lv_at hl 0 rfl) ?_
  refine vk_getf hx hb (hG.2.2.2.1.1 i (by assumption)).2.2.1 hS hown w_0 (fun _ h9 => h9) dJ0_length_8abf5_1 ?_
  refine va_tlen (v := nI (wlN i)) hx hb (hG.2.2.2.1.1 i (by assumption)).2.2.2 hS rfl dJ0_length_8abf5_4 ?_
  refine lv_aload_n hx hb dJ0_length_8abf5_5 rfl (lv_at hl 0 rfl) ?_
  refine xcT_i (As := []) (rest := [.int (nI (wlN i))]) (wc := []) (wr := []) (w3 := fun (u : Unit) => []) ⟨hx, hb, hml, hown, hts⟩ (c_J0_coder_7d493 l D cI cZ cO H.size gR gD gK gV i (by first | assumption | omega | rfl)) (cwV 0 hts gJ0_length_8abf5_J0_coder_7d493 rfl rfl rfl (by decide +kernel) ⟨Nat.le_of_ble_eq_true rfl, Nat.le_of_ble_eq_true rfl⟩) (xGdc gR gD gK gV) (xGdc gR gD gK gV) (fun _ _ _ h => h) hG hP hD hK hS hA [] [] [] rfl rfl rfl rfl rfl (vk_recv hG.2.2.2.1 (i := i) (by assumption) hS) rfl (fun _ => rfl) rfl rfl hl.1 (Nat.le_of_ble_eq_true rfl) dJ0_length_8abf5_6 ⟨Nat.zero_le _, Nat.zero_le _⟩ (fun r u H locs hw hP hD hS => ?_)
  obtain ⟨rfl, hw⟩ := hw
  have hw_6 : True := hw
  have hP : va_P D vwCl [] H := hP
  have hD : va_D A [] := hD
  refine lv_ishr hx hb dJ0_length_8abf5_9 ?_
  refine lv_topr (x' := nI (wlN i)) (by have := wl_all ⟨i, hi⟩; exact this) ?_
  exact hret _ () _ _ _ _ (rfl) (⟨rfl, trivial⟩) hP hD hS dJ0_length_8abf5_10

set_option maxHeartbeats 4000000 in
set_option maxRecDepth 100000 in
theorem c_J3_checkIndex_8e157 (l : Launch) (D : va_G) (cI cZ cO : ClassId) (sz : Nat) (gR : Nat) (gD : Nat) (gK : Nat → Nat) (gV : Nat → Nat) (j : Nat) (n_ : Nat) (t9 : Nat) (hj : j < n_) (hn : n_ < 2147483648) : xMi l yJ3_checkIndex_8e157 wsJ3_checkIndex_8e157 (0) (0) D (TY cI cZ cO) (xGc gR gD gK gV) [.int (nI j), .int (nI n_), .ref t9] [] sz (fun (rv_ : Int32) (u : Unit) => rv_ = (nI j) ∧ (True)) (fun (u : Unit) => []) := by
  refine xMi.of (cc := cJ3_checkIndex_8e157) (maxL := 3) (by decide +kernel) rfl (Nat.le_of_ble_eq_true rfl) ?_
  intro p e s m below meth c A Q H hx hb hml hown hts hA hP hD hK hS hG hret ls hl
  have hown : s.vm.findClass RJ3 = some m.cls := hown
  have hP : va_P D vwCl [] H := hP
  have hD : va_D A [] := hD
  have hl : lv_has ls 3 [(0, .int (nI j)), (1, .int (nI n_)), (2, .ref t9)] := hl
  have _h0 : True := trivial
  refine lv_iload_n hx hb dJ3_checkIndex_8e157_0 rfl (lv_at hl 0 rfl) ?_
  refine lv_if_lt (tgt := 9) hx hb dJ3_checkIndex_8e157_1 (by decide) (fun c_1 => ?_) (fun c_1 => ?_)
  ·
    exact absurd c_1 (nI_pos (show j < 2147483648 by omega))
  ·
    refine lv_iload_n hx hb dJ3_checkIndex_8e157_4 rfl (lv_at hl 0 rfl) ?_
    refine lv_iload_n hx hb dJ3_checkIndex_8e157_5 rfl (lv_at hl 1 rfl) ?_
    refine lv_icmp_lt (tgt := 16) hx hb dJ3_checkIndex_8e157_6 (by decide) (fun c_6 => ?_) (fun c_6 => ?_)
    ·
      have n_6 : j < n_ := (nI_ltI (show j < 2147483648 by omega) (show n_ < 2147483648 by omega)).1 c_6
      refine lv_iload_n hx hb dJ3_checkIndex_8e157_16 rfl (lv_at hl 0 rfl) ?_
      exact hret _ () _ _ _ _ (rfl) (⟨rfl, trivial⟩) hP hD hS dJ3_checkIndex_8e157_17
    ·
      have n_6 : n_ ≤ j := Nat.le_of_not_lt (fun q => c_6 ((nI_ltI (show j < 2147483648 by omega) (show n_ < 2147483648 by omega)).2 q))
      exact absurd n_6 (by omega)

set_option maxHeartbeats 4000000 in
set_option maxRecDepth 100000 in
theorem c_J3_checkIndex_null (l : Launch) (D : va_G) (cI cZ cO : ClassId) (sz : Nat) (gR : Nat) (gD : Nat) (gK : Nat → Nat) (gV : Nat → Nat) (j : Nat) (n_ : Nat) (hj : j < n_) (hn : n_ < 2147483648) : xMi l yJ3_checkIndex_8e157 wsJ3_checkIndex_8e157 (0) (0) D (TY cI cZ cO) (xGc gR gD gK gV) [.int (nI j), .int (nI n_), .null] [] sz (fun (rv_ : Int32) (u : Unit) => rv_ = (nI j) ∧ (True)) (fun (u : Unit) => []) := by
  refine xMi.of (cc := cJ3_checkIndex_8e157) (maxL := 3) (by decide +kernel) rfl (Nat.le_of_ble_eq_true rfl) ?_
  intro p e s m below meth c A Q H hx hb hml hown hts hA hP hD hK hS hG hret ls hl
  have hown : s.vm.findClass RJ3 = some m.cls := hown
  have hP : va_P D vwCl [] H := hP
  have hD : va_D A [] := hD
  have hl : lv_has ls 3 [(0, .int (nI j)), (1, .int (nI n_)), (2, .null)] := hl
  have _h0 : True := trivial
  refine lv_iload_n hx hb dJ3_checkIndex_8e157_0 rfl (lv_at hl 0 rfl) ?_
  refine lv_if_lt (tgt := 9) hx hb dJ3_checkIndex_8e157_1 (by decide) (fun c_1 => ?_) (fun c_1 => ?_)
  ·
    exact absurd c_1 (nI_pos (show j < 2147483648 by omega))
  ·
    refine lv_iload_n hx hb dJ3_checkIndex_8e157_4 rfl (lv_at hl 0 rfl) ?_
    refine lv_iload_n hx hb dJ3_checkIndex_8e157_5 rfl (lv_at hl 1 rfl) ?_
    refine lv_icmp_lt (tgt := 16) hx hb dJ3_checkIndex_8e157_6 (by decide) (fun c_6 => ?_) (fun c_6 => ?_)
    ·
      have n_6 : j < n_ := (nI_ltI (show j < 2147483648 by omega) (show n_ < 2147483648 by omega)).1 c_6
      refine lv_iload_n hx hb dJ3_checkIndex_8e157_16 rfl (lv_at hl 0 rfl) ?_
      exact hret _ () _ _ _ _ (rfl) (⟨rfl, trivial⟩) hP hD hS dJ3_checkIndex_8e157_17
    ·
      have n_6 : n_ ≤ j := Nat.le_of_not_lt (fun q => c_6 ((nI_ltI (show j < 2147483648 by omega) (show n_ < 2147483648 by omega)).2 q))
      exact absurd n_6 (by omega)

set_option maxHeartbeats 4000000 in
set_option maxRecDepth 100000 in
theorem c_J0_checkIndex_df160 (l : Launch) (D : va_G) (cI cZ cO : ClassId) (sz : Nat) (gR : Nat) (gD : Nat) (gK : Nat → Nat) (gV : Nat → Nat) (j : Nat) (n_ : Nat) (hj : j < n_) (hn : n_ < 2147483648) : xMv l yJ0_checkIndex_df160 wsJ0_checkIndex_df160 (1) (22) D (TY cI cZ cO) (xGc gR gD gK gV) [.int (nI j), .int (nI n_)] [] sz (fun (u : Unit) => (True)) (fun (u : Unit) => []) := by
  refine xMv.of (cc := cJ0_checkIndex_df160) (maxL := 2) (by decide +kernel) rfl (Nat.le_of_ble_eq_true rfl) ?_
  intro p e s m below meth c A Q H hx hb hml hown hts hA hP hD hK hS hG hret ls hl
  have hown : s.vm.findClass RJ0 = some m.cls := hown
  have hP : va_P D vwCl [] H := hP
  have hD : va_D A [] := hD
  have hl : lv_has ls 2 [(0, .int (nI j)), (1, .int (nI n_))] := hl
  have w_0 := hts (.fieldLink RJ0 1053 "jdk/internal/util/Preconditions" "SIOOBE_FORMATTER" "Ljava/util/function/BiFunction;") (List.mem_of_getElem? (i := 1) (by rfl))
  have _h0 : True := trivial
  refine lv_iload_n hx hb dJ0_checkIndex_df160_0 rfl (lv_at hl 0 rfl) ?_
  refine lv_iload_n hx hb dJ0_checkIndex_df160_1 rfl (lv_at hl 1 rfl) ?_
  rcases hG.2.2.2.2.2.2 with hz9 | ⟨t9, hz9⟩
  ·
    refine va_gets hx hb hz9 hS hown w_0 (fun _ h9 => h9) dJ0_checkIndex_df160_2 ?_
    refine xcS_i (As := [.int (nI j), .int (nI n_), .null]) (rest := []) (wc := []) (wr := []) (w3 := fun (u : Unit) => []) ⟨hx, hb, hml, hown, hts⟩ (c_J3_checkIndex_null l D cI cZ cO H.size gR gD gK gV j n_ (by first | assumption | omega | rfl) (by first | assumption | omega | rfl)) (va_cwS 3 hts gJ0_checkIndex_df160_J3_checkIndex_8e157 rfl rfl rfl (by decide +kernel) ⟨Nat.le_of_ble_eq_true rfl, Nat.le_of_ble_eq_true rfl⟩) (xGdc gR gD gK gV) (xGdc gR gD gK gV) (fun _ _ _ h => h) hG hP hD hK hS hA [] [] [] rfl rfl rfl rfl rfl rfl (fun _ => rfl) rfl rfl hl.1 (Nat.le_of_ble_eq_true rfl) dJ0_checkIndex_df160_5 ⟨Nat.zero_le _, Nat.zero_le _⟩ (fun r u H locs hw hP hD hS => ?_)
    obtain ⟨rfl, hw⟩ := hw
    have hw_5 : True := hw
    have hP : va_P D vwCl [] H := hP
    have hD : va_D A [] := hD
    refine lv_pop hx hb dJ0_checkIndex_df160_8 rfl ?_
    exact hret () _ _ _ _ (trivial) hP hD hS dJ0_checkIndex_df160_9
  ·
    refine va_gets hx hb hz9 hS hown w_0 (fun _ h9 => h9) dJ0_checkIndex_df160_2 ?_
    refine xcS_i (As := [.int (nI j), .int (nI n_), .ref t9]) (rest := []) (wc := []) (wr := []) (w3 := fun (u : Unit) => []) ⟨hx, hb, hml, hown, hts⟩ (c_J3_checkIndex_8e157 l D cI cZ cO H.size gR gD gK gV j n_ t9 (by first | assumption | omega | rfl) (by first | assumption | omega | rfl)) (va_cwS 3 hts gJ0_checkIndex_df160_J3_checkIndex_8e157 rfl rfl rfl (by decide +kernel) ⟨Nat.le_of_ble_eq_true rfl, Nat.le_of_ble_eq_true rfl⟩) (xGdc gR gD gK gV) (xGdc gR gD gK gV) (fun _ _ _ h => h) hG hP hD hK hS hA [] [] [] rfl rfl rfl rfl rfl rfl (fun _ => rfl) rfl rfl hl.1 (Nat.le_of_ble_eq_true rfl) dJ0_checkIndex_df160_5 ⟨Nat.zero_le _, Nat.zero_le _⟩ (fun r u H locs hw hP hD hS => ?_)
    obtain ⟨rfl, hw⟩ := hw
    have hw_5 : True := hw
    have hP : va_P D vwCl [] H := hP
    have hD : va_D A [] := hD
    refine lv_pop hx hb dJ0_checkIndex_df160_8 rfl ?_
    exact hret () _ _ _ _ (trivial) hP hD hS dJ0_checkIndex_df160_9

set_option maxHeartbeats 4000000 in
set_option maxRecDepth 100000 in
theorem c_J1_charAt_3b067 (l : Launch) (D : va_G) (cI cZ cO : ClassId) (sz : Nat) (gR : Nat) (gD : Nat) (gK : Nat → Nat) (gV : Nat → Nat) (i : Nat) (j : Nat) (hi : i < 10) (hj : j < wlN i) : xMi l yJ1_charAt_3b067 wsJ1_charAt_3b067 (2) (43) D (TY cI cZ cO) (xGc gR gD gK gV) [.ref (gV i), .int (nI j)] [] sz (fun (rv_ : Int32) (u : Unit) => rv_ = (wbI i j) ∧ (True)) (fun (u : Unit) => []) := by
  refine xMi.of (cc := cJ1_charAt_3b067) (maxL := 2) (by decide +kernel) rfl (Nat.le_of_ble_eq_true rfl) ?_
  intro p e s m below meth c A Q H hx hb hml hown hts hA hP hD hK hS hG hret ls hl
  have hown : s.vm.findClass RJ1 = some m.cls := hown
  have hP : va_P D vwCl [] H := hP
  have hD : va_D A [] := hD
  have hl : lv_has ls 2 [(0, .ref (gV i)), (1, .int (nI j))] := hl
  have _h0 : True := trivial
  refine lv_iload_n hx hb dJ1_charAt_3b067_0 rfl (lv_at hl 1 rfl) ?_
  refine lv_aload_n hx hb dJ1_charAt_3b067_1 rfl (lv_at hl 0 rfl) ?_
  refine va_tlen (v := nI (wlN i)) hx hb (hG.2.2.2.1.1 i (by assumption)).2.2.2 hS rfl dJ1_charAt_3b067_2 ?_
  refine xcS_v (As := [.int (nI j), .int (nI (wlN i))]) (rest := []) (wc := []) (wr := []) (w3 := fun (u : Unit) => []) ⟨hx, hb, hml, hown, hts⟩ (c_J0_checkIndex_df160 l D cI cZ cO H.size gR gD gK gV j (wlN i) (by first | assumption | omega | rfl) (by have := wl_5 hi; omega)) (va_cwS 2 hts gJ1_charAt_3b067_J0_checkIndex_df160 rfl rfl rfl (by decide +kernel) ⟨Nat.le_of_ble_eq_true rfl, Nat.le_of_ble_eq_true rfl⟩) (xGdc gR gD gK gV) (xGdc gR gD gK gV) (fun _ _ _ h => h) hG hP hD hK hS hA [] [] [] rfl rfl rfl rfl rfl rfl (fun _ => rfl) rfl rfl hl.1 (Nat.le_of_ble_eq_true rfl) dJ1_charAt_3b067_3 ⟨Nat.zero_le _, Nat.zero_le _⟩ (fun u H locs hw hP hD hS => ?_)
  have hw_3 : True := hw
  have hP : va_P D vwCl [] H := hP
  have hD : va_D A [] := hD
  refine lv_aload_n hx hb dJ1_charAt_3b067_6 rfl (lv_at hl 0 rfl) ?_
  refine lv_iload_n hx hb dJ1_charAt_3b067_7 rfl (lv_at hl 1 rfl) ?_
  refine x_tb hx hb (f := wbI i) (hG.2.2.2.1.1 i (by assumption)).2.2.2 hS (j := j) (by assumption) (by have := wl_5 (show i < 10 by assumption); show wlN i < _; omega) dJ1_charAt_3b067_8 ?_
  refine lv_sipush (v := (255 : Int32)) hx hb dJ1_charAt_3b067_9 (by decide) ?_
  refine lv_iand hx hb dJ1_charAt_3b067_12 ?_
  refine lv_topr (x' := wbI i j) ((wb_and hi hj).1) ?_
  refine lv_i2c hx hb dJ1_charAt_3b067_13 rfl ?_
  refine lv_topr (x' := wbI i j) ((wb_and hi hj).2) ?_
  exact hret _ () _ _ _ _ (wb_nar hi hj) (⟨rfl, trivial⟩) hP hD hS dJ1_charAt_3b067_14

set_option maxHeartbeats 4000000 in
set_option maxRecDepth 100000 in
theorem c_J0_charAt_5068e (l : Launch) (D : va_G) (cI cZ cO : ClassId) (sz : Nat) (gR : Nat) (gD : Nat) (gK : Nat → Nat) (gV : Nat → Nat) (i : Nat) (j : Nat) (hi : i < 10) (hj : j < wlN i) : xMi l yJ0_charAt_5068e wsJ0_charAt_5068e (3) (64) D (TY cI cZ cO) (xGc gR gD gK gV) [.ref (gK i), .int (nI j)] [] sz (fun (rv_ : Int32) (u : Unit) => rv_ = (wbI i j) ∧ (True)) (fun (u : Unit) => []) := by
  refine xMi.of (cc := cJ0_charAt_5068e) (maxL := 2) (by decide +kernel) rfl (Nat.le_of_ble_eq_true rfl) ?_
  intro p e s m below meth c A Q H hx hb hml hown hts hA hP hD hK hS hG hret ls hl
  have hown : s.vm.findClass RJ0 = some m.cls := hown
  have hP : va_P D vwCl [] H := hP
  have hD : va_D A [] := hD
  have hl : lv_has ls 2 [(0, .ref (gK i)), (1, .int (nI j))] := hl
  have w_0 := hts (.fieldLink RJ0 9 "java/lang/String" "value" "[B") (List.mem_of_getElem? (i := 1) (by rfl))
  have _h0 : True := trivial
  refine lv_aload_n hx hb dJ0_charAt_5068e_0 rfl (lv_at hl 0 rfl) ?_
  refine xcT_i (As := []) (rest := []) (wc := []) (wr := []) (w3 := fun (u : Unit) => []) ⟨hx, hb, hml, hown, hts⟩ (c_J0_isLatin1_aae02 l D cI cZ cO H.size gR gD gK gV i (by first | assumption | omega | rfl)) (cwV 0 hts gJ0_charAt_5068e_J0_isLatin1_aae02 rfl rfl rfl (by decide +kernel) ⟨Nat.le_of_ble_eq_true rfl, Nat.le_of_ble_eq_true rfl⟩) (xGdc gR gD gK gV) (xGdc gR gD gK gV) (fun _ _ _ h => h) hG hP hD hK hS hA [] [] [] rfl rfl rfl rfl rfl (vk_recv hG.2.2.2.1 (i := i) (by assumption) hS) rfl (fun _ => rfl) rfl rfl hl.1 (Nat.le_of_ble_eq_true rfl) dJ0_charAt_5068e_1 ⟨Nat.zero_le _, Nat.zero_le _⟩ (fun r u H locs hw hP hD hS => ?_)
  obtain ⟨rfl, hw⟩ := hw
  have hw_1 : True := hw
  have hP : va_P D vwCl [] H := hP
  have hD : va_D A [] := hD
  refine lv_if_eq (tgt := 16) hx hb dJ0_charAt_5068e_4 (by decide) (fun c_4 => ?_) (fun c_4 => ?_)
  ·
    exact absurd c_4 (by decide)
  ·
    refine lv_aload_n hx hb dJ0_charAt_5068e_7 rfl (lv_at hl 0 rfl) ?_
    refine vk_getf hx hb (hG.2.2.2.1.1 i (by assumption)).2.2.1 hS hown w_0 (fun _ h9 => h9) dJ0_charAt_5068e_8 ?_
    refine lv_iload_n hx hb dJ0_charAt_5068e_11 rfl (lv_at hl 1 rfl) ?_
    refine xcS_i (As := [.ref (gV i), .int (nI j)]) (rest := []) (wc := []) (wr := []) (w3 := fun (u : Unit) => []) ⟨hx, hb, hml, hown, hts⟩ (c_J1_charAt_3b067 l D cI cZ cO H.size gR gD gK gV i j (by first | assumption | omega | rfl) (by first | assumption | omega | rfl)) (va_cwS 2 hts gJ0_charAt_5068e_J1_charAt_3b067 rfl rfl rfl (by decide +kernel) ⟨Nat.le_of_ble_eq_true rfl, Nat.le_of_ble_eq_true rfl⟩) (xGdc gR gD gK gV) (xGdc gR gD gK gV) (fun _ _ _ h => h) hG hP hD hK hS hA [] [] [] rfl rfl rfl rfl rfl rfl (fun _ => rfl) rfl rfl hl.1 (Nat.le_of_ble_eq_true rfl) dJ0_charAt_5068e_12 ⟨Nat.zero_le _, Nat.zero_le _⟩ (fun r u H locs hw hP hD hS => ?_)
    obtain ⟨rfl, hw⟩ := hw
    have hw_12 : True := hw
    have hP : va_P D vwCl [] H := hP
    have hD : va_D A [] := hD
    exact hret _ () _ _ _ _ (wb_nar hi hj) (⟨rfl, trivial⟩) hP hD hS dJ0_charAt_5068e_15
