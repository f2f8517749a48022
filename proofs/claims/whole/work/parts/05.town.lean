set_option maxHeartbeats 4000000 in
set_option maxRecDepth 100000 in
theorem c_X8_hasHouse (l : Launch) (D : va_G) (cI cZ cO : ClassId) (sz : Nat) (o0 : Nat) (o1 : Nat) (o2 : Nat) (o3 : Nat) (o4 : Nat) (o5 : Nat) (o6 : Nat) (xs : Nat → Int32) (ys : Nat → Int32) (rf : Nat → Int32) (bo : Nat → Int32) (pr : Nat → Int32) (bu : Nat → Int32) (n : Nat) (k : Nat) (wd : Int32) (wt : Bool) (h : Int32) (hn : n ≤ 8) : xMi l yX8_hasHouse wsX8_hasHouse (0) (0) D (TY cI cZ cO) xG0 [.ref o0, .int h] [(o0, .inr (7, [.ref o1, .ref o2, .ref o3, .ref o4, .ref o5, .ref o6, .int (nI n), .int (nI k), .int wd, .int (bb wt)])), (o1, .inl (cI, 8, .inl xs)), (o2, .inl (cI, 8, .inl ys)), (o3, .inl (cI, 8, .inl rf)), (o4, .inl (cI, 8, .inl bo)), (o5, .inl (cI, 4, .inl pr)), (o6, .inl (cI, 4, .inl bu))] sz (fun (rv_ : Int32) (u : Unit) => rv_ = (bb (inb h n)) ∧ (True)) (fun (u : Unit) => [(o0, .inr (7, [.ref o1, .ref o2, .ref o3, .ref o4, .ref o5, .ref o6, .int (nI n), .int (nI k), .int wd, .int (bb wt)])), (o1, .inl (cI, 8, .inl xs)), (o2, .inl (cI, 8, .inl ys)), (o3, .inl (cI, 8, .inl rf)), (o4, .inl (cI, 8, .inl bo)), (o5, .inl (cI, 4, .inl pr)), (o6, .inl (cI, 4, .inl bu))]) := by
  refine xMi.of (cc := cX8_hasHouse) (maxL := 2) (by decide +kernel) rfl (Nat.le_of_ble_eq_true rfl) ?_
  intro p e s m below meth c A Q H hx hb hml hown hts hA hP hD hK hS hG hret ls hl
  have hown : s.vm.findClass RX8 = some m.cls := hown
  have hP : va_P D vwCl [(o0, .inr (7, [.ref o1, .ref o2, .ref o3, .ref o4, .ref o5, .ref o6, .int (nI n), .int (nI k), .int wd, .int (bb wt)])), (o1, .inl (cI, 8, .inl xs)), (o2, .inl (cI, 8, .inl ys)), (o3, .inl (cI, 8, .inl rf)), (o4, .inl (cI, 8, .inl bo)), (o5, .inl (cI, 4, .inl pr)), (o6, .inl (cI, 4, .inl bu))] H := hP
  have hD : va_D A [(o0, .inr (7, [.ref o1, .ref o2, .ref o3, .ref o4, .ref o5, .ref o6, .int (nI n), .int (nI k), .int wd, .int (bb wt)])), (o1, .inl (cI, 8, .inl xs)), (o2, .inl (cI, 8, .inl ys)), (o3, .inl (cI, 8, .inl rf)), (o4, .inl (cI, 8, .inl bo)), (o5, .inl (cI, 4, .inl pr)), (o6, .inl (cI, 4, .inl bu))] := hD
  have hl : lv_has ls 2 [(0, .ref o0), (1, .int h)] := hl
  have w_0 := hts (.fieldLink RX8 30 "UnlikeRoofs$Town" "houses" "I") (List.mem_of_getElem? (i := 1) (by rfl))
  have hin_X8 : ∀ w ∈ wsX80, w ∈ wsX8_hasHouse := fun _ h => List.mem_cons_of_mem _ (List.mem_append_right _ h)
  have _h0 : True := trivial
  refine lv_iload_n hx hb dX8_hasHouse_0 rfl (lv_at hl 1 rfl) ?_
  refine lv_if_lt (tgt := 16) hx hb dX8_hasHouse_1 (by decide) (fun c_1 => ?_) (fun c_1 => ?_)
  ·
    refine lv_iconst (v := (0 : Int32)) hx hb dX8_hasHouse_16 (by decide) ?_
    exact hret _ () _ _ _ _ (rfl) (⟨by first | exact bbT ⟨Int32.not_lt.1 (by assumption), Int32.not_le.1 (by assumption)⟩ | exact bbF (fun q => absurd q.1 (Int32.not_le.2 (by assumption))) | exact bbF (fun q => absurd q.2 (Int32.not_lt.2 (by assumption))), trivial⟩) hP hD hS dX8_hasHouse_17
  ·
    refine lv_iload_n hx hb dX8_hasHouse_4 rfl (lv_at hl 1 rfl) ?_
    refine lv_aload_n hx hb dX8_hasHouse_5 rfl (lv_at hl 0 rfl) ?_
    refine va_get (D := D) (ci := 7) (v := .int (nI n)) (C := RX8) (T := TX8) (N := 10) hx hb hts hin_X8 hown hK hP 0 rfl rfl 6 (by decide) w_0 (fun _ h9 => h9) rfl dX8_hasHouse_6 ?_
    refine lv_icmp_ge (tgt := 16) hx hb dX8_hasHouse_9 (by decide) (fun c_9 => ?_) (fun c_9 => ?_)
    ·
      refine lv_iconst (v := (0 : Int32)) hx hb dX8_hasHouse_16 (by decide) ?_
      exact hret _ () _ _ _ _ (rfl) (⟨by first | exact bbT ⟨Int32.not_lt.1 (by assumption), Int32.not_le.1 (by assumption)⟩ | exact bbF (fun q => absurd q.1 (Int32.not_le.2 (by assumption))) | exact bbF (fun q => absurd q.2 (Int32.not_lt.2 (by assumption))), trivial⟩) hP hD hS dX8_hasHouse_17
    ·
      refine lv_iconst (v := (1 : Int32)) hx hb dX8_hasHouse_12 (by decide) ?_
      refine lv_goto (tgt := 17) hx hb dX8_hasHouse_13 (by decide) ?_
      exact hret _ () _ _ _ _ (rfl) (⟨by first | exact bbT ⟨Int32.not_lt.1 (by assumption), Int32.not_le.1 (by assumption)⟩ | exact bbF (fun q => absurd q.1 (Int32.not_le.2 (by assumption))) | exact bbF (fun q => absurd q.2 (Int32.not_lt.2 (by assumption))), trivial⟩) hP hD hS dX8_hasHouse_17

set_option maxHeartbeats 4000000 in
set_option maxRecDepth 100000 in
theorem c_X8_hasHouse_in (l : Launch) (D : va_G) (cI cZ cO : ClassId) (sz : Nat) (o0 : Nat) (o1 : Nat) (o2 : Nat) (o3 : Nat) (o4 : Nat) (o5 : Nat) (o6 : Nat) (xs : Nat → Int32) (ys : Nat → Int32) (rf : Nat → Int32) (bo : Nat → Int32) (pr : Nat → Int32) (bu : Nat → Int32) (n : Nat) (k : Nat) (wd : Int32) (wt : Bool) (h : Nat) (hn : n ≤ 8) (hh : h < n) : xMi l yX8_hasHouse wsX8_hasHouse (0) (0) D (TY cI cZ cO) xG0 [.ref o0, .int (nI h)] [(o0, .inr (7, [.ref o1, .ref o2, .ref o3, .ref o4, .ref o5, .ref o6, .int (nI n), .int (nI k), .int wd, .int (bb wt)])), (o1, .inl (cI, 8, .inl xs)), (o2, .inl (cI, 8, .inl ys)), (o3, .inl (cI, 8, .inl rf)), (o4, .inl (cI, 8, .inl bo)), (o5, .inl (cI, 4, .inl pr)), (o6, .inl (cI, 4, .inl bu))] sz (fun (rv_ : Int32) (u : Unit) => rv_ = (1 : Int32) ∧ (True)) (fun (u : Unit) => [(o0, .inr (7, [.ref o1, .ref o2, .ref o3, .ref o4, .ref o5, .ref o6, .int (nI n), .int (nI k), .int wd, .int (bb wt)])), (o1, .inl (cI, 8, .inl xs)), (o2, .inl (cI, 8, .inl ys)), (o3, .inl (cI, 8, .inl rf)), (o4, .inl (cI, 8, .inl bo)), (o5, .inl (cI, 4, .inl pr)), (o6, .inl (cI, 4, .inl bu))]) := by
  refine xMi.of (cc := cX8_hasHouse) (maxL := 2) (by decide +kernel) rfl (Nat.le_of_ble_eq_true rfl) ?_
  intro p e s m below meth c A Q H hx hb hml hown hts hA hP hD hK hS hG hret ls hl
  have hown : s.vm.findClass RX8 = some m.cls := hown
  have hP : va_P D vwCl [(o0, .inr (7, [.ref o1, .ref o2, .ref o3, .ref o4, .ref o5, .ref o6, .int (nI n), .int (nI k), .int wd, .int (bb wt)])), (o1, .inl (cI, 8, .inl xs)), (o2, .inl (cI, 8, .inl ys)), (o3, .inl (cI, 8, .inl rf)), (o4, .inl (cI, 8, .inl bo)), (o5, .inl (cI, 4, .inl pr)), (o6, .inl (cI, 4, .inl bu))] H := hP
  have hD : va_D A [(o0, .inr (7, [.ref o1, .ref o2, .ref o3, .ref o4, .ref o5, .ref o6, .int (nI n), .int (nI k), .int wd, .int (bb wt)])), (o1, .inl (cI, 8, .inl xs)), (o2, .inl (cI, 8, .inl ys)), (o3, .inl (cI, 8, .inl rf)), (o4, .inl (cI, 8, .inl bo)), (o5, .inl (cI, 4, .inl pr)), (o6, .inl (cI, 4, .inl bu))] := hD
  have hl : lv_has ls 2 [(0, .ref o0), (1, .int (nI h))] := hl
  have w_0 := hts (.fieldLink RX8 30 "UnlikeRoofs$Town" "houses" "I") (List.mem_of_getElem? (i := 1) (by rfl))
  have hin_X8 : ∀ w ∈ wsX80, w ∈ wsX8_hasHouse := fun _ h => List.mem_cons_of_mem _ (List.mem_append_right _ h)
  have _h0 : True := trivial
  refine lv_iload_n hx hb dX8_hasHouse_0 rfl (lv_at hl 1 rfl) ?_
  refine lv_if_lt (tgt := 16) hx hb dX8_hasHouse_1 (by decide) (fun c_1 => ?_) (fun c_1 => ?_)
  ·
    exact absurd c_1 (nI_pos (show h < 2147483648 by omega))
  ·
    refine lv_iload_n hx hb dX8_hasHouse_4 rfl (lv_at hl 1 rfl) ?_
    refine lv_aload_n hx hb dX8_hasHouse_5 rfl (lv_at hl 0 rfl) ?_
    refine va_get (D := D) (ci := 7) (v := .int (nI n)) (C := RX8) (T := TX8) (N := 10) hx hb hts hin_X8 hown hK hP 0 rfl rfl 6 (by decide) w_0 (fun _ h9 => h9) rfl dX8_hasHouse_6 ?_
    refine lv_icmp_ge (tgt := 16) hx hb dX8_hasHouse_9 (by decide) (fun c_9 => ?_) (fun c_9 => ?_)
    ·
      have n_9 : n ≤ h := (nI_leI (show n < 2147483648 by omega) (show h < 2147483648 by omega)).1 c_9
      exact absurd n_9 (by omega)
    ·
      have n_9 : h < n := Nat.lt_of_not_le (fun q => c_9 ((nI_leI (show n < 2147483648 by omega) (show h < 2147483648 by omega)).2 q))
      refine lv_iconst (v := (1 : Int32)) hx hb dX8_hasHouse_12 (by decide) ?_
      refine lv_goto (tgt := 17) hx hb dX8_hasHouse_13 (by decide) ?_
      exact hret _ () _ _ _ _ (rfl) (⟨rfl, trivial⟩) hP hD hS dX8_hasHouse_17

set_option maxHeartbeats 4000000 in
set_option maxRecDepth 100000 in
theorem c_X8_hasSort (l : Launch) (D : va_G) (cI cZ cO : ClassId) (sz : Nat) (o0 : Nat) (o1 : Nat) (o2 : Nat) (o3 : Nat) (o4 : Nat) (o5 : Nat) (o6 : Nat) (xs : Nat → Int32) (ys : Nat → Int32) (rf : Nat → Int32) (bo : Nat → Int32) (pr : Nat → Int32) (bu : Nat → Int32) (n : Nat) (k : Nat) (wd : Int32) (wt : Bool) (h : Int32) (hk : k ≤ 4) : xMi l yX8_hasSort wsX8_hasSort (0) (0) D (TY cI cZ cO) xG0 [.ref o0, .int h] [(o0, .inr (7, [.ref o1, .ref o2, .ref o3, .ref o4, .ref o5, .ref o6, .int (nI n), .int (nI k), .int wd, .int (bb wt)])), (o1, .inl (cI, 8, .inl xs)), (o2, .inl (cI, 8, .inl ys)), (o3, .inl (cI, 8, .inl rf)), (o4, .inl (cI, 8, .inl bo)), (o5, .inl (cI, 4, .inl pr)), (o6, .inl (cI, 4, .inl bu))] sz (fun (rv_ : Int32) (u : Unit) => rv_ = (bb (inb h k)) ∧ (True)) (fun (u : Unit) => [(o0, .inr (7, [.ref o1, .ref o2, .ref o3, .ref o4, .ref o5, .ref o6, .int (nI n), .int (nI k), .int wd, .int (bb wt)])), (o1, .inl (cI, 8, .inl xs)), (o2, .inl (cI, 8, .inl ys)), (o3, .inl (cI, 8, .inl rf)), (o4, .inl (cI, 8, .inl bo)), (o5, .inl (cI, 4, .inl pr)), (o6, .inl (cI, 4, .inl bu))]) := by
  refine xMi.of (cc := cX8_hasSort) (maxL := 2) (by decide +kernel) rfl (Nat.le_of_ble_eq_true rfl) ?_
  intro p e s m below meth c A Q H hx hb hml hown hts hA hP hD hK hS hG hret ls hl
  have hown : s.vm.findClass RX8 = some m.cls := hown
  have hP : va_P D vwCl [(o0, .inr (7, [.ref o1, .ref o2, .ref o3, .ref o4, .ref o5, .ref o6, .int (nI n), .int (nI k), .int wd, .int (bb wt)])), (o1, .inl (cI, 8, .inl xs)), (o2, .inl (cI, 8, .inl ys)), (o3, .inl (cI, 8, .inl rf)), (o4, .inl (cI, 8, .inl bo)), (o5, .inl (cI, 4, .inl pr)), (o6, .inl (cI, 4, .inl bu))] H := hP
  have hD : va_D A [(o0, .inr (7, [.ref o1, .ref o2, .ref o3, .ref o4, .ref o5, .ref o6, .int (nI n), .int (nI k), .int wd, .int (bb wt)])), (o1, .inl (cI, 8, .inl xs)), (o2, .inl (cI, 8, .inl ys)), (o3, .inl (cI, 8, .inl rf)), (o4, .inl (cI, 8, .inl bo)), (o5, .inl (cI, 4, .inl pr)), (o6, .inl (cI, 4, .inl bu))] := hD
  have hl : lv_has ls 2 [(0, .ref o0), (1, .int h)] := hl
  have w_0 := hts (.fieldLink RX8 34 "UnlikeRoofs$Town" "sorts" "I") (List.mem_of_getElem? (i := 1) (by rfl))
  have hin_X8 : ∀ w ∈ wsX80, w ∈ wsX8_hasSort := fun _ h => List.mem_cons_of_mem _ (List.mem_append_right _ h)
  have _h0 : True := trivial
  refine lv_iload_n hx hb dX8_hasSort_0 rfl (lv_at hl 1 rfl) ?_
  refine lv_if_lt (tgt := 16) hx hb dX8_hasSort_1 (by decide) (fun c_1 => ?_) (fun c_1 => ?_)
  ·
    refine lv_iconst (v := (0 : Int32)) hx hb dX8_hasSort_16 (by decide) ?_
    exact hret _ () _ _ _ _ (rfl) (⟨by first | exact bbT ⟨Int32.not_lt.1 (by assumption), Int32.not_le.1 (by assumption)⟩ | exact bbF (fun q => absurd q.1 (Int32.not_le.2 (by assumption))) | exact bbF (fun q => absurd q.2 (Int32.not_lt.2 (by assumption))), trivial⟩) hP hD hS dX8_hasSort_17
  ·
    refine lv_iload_n hx hb dX8_hasSort_4 rfl (lv_at hl 1 rfl) ?_
    refine lv_aload_n hx hb dX8_hasSort_5 rfl (lv_at hl 0 rfl) ?_
    refine va_get (D := D) (ci := 7) (v := .int (nI k)) (C := RX8) (T := TX8) (N := 10) hx hb hts hin_X8 hown hK hP 0 rfl rfl 7 (by decide) w_0 (fun _ h9 => h9) rfl dX8_hasSort_6 ?_
    refine lv_icmp_ge (tgt := 16) hx hb dX8_hasSort_9 (by decide) (fun c_9 => ?_) (fun c_9 => ?_)
    ·
      refine lv_iconst (v := (0 : Int32)) hx hb dX8_hasSort_16 (by decide) ?_
      exact hret _ () _ _ _ _ (rfl) (⟨by first | exact bbT ⟨Int32.not_lt.1 (by assumption), Int32.not_le.1 (by assumption)⟩ | exact bbF (fun q => absurd q.1 (Int32.not_le.2 (by assumption))) | exact bbF (fun q => absurd q.2 (Int32.not_lt.2 (by assumption))), trivial⟩) hP hD hS dX8_hasSort_17
    ·
      refine lv_iconst (v := (1 : Int32)) hx hb dX8_hasSort_12 (by decide) ?_
      refine lv_goto (tgt := 17) hx hb dX8_hasSort_13 (by decide) ?_
      exact hret _ () _ _ _ _ (rfl) (⟨by first | exact bbT ⟨Int32.not_lt.1 (by assumption), Int32.not_le.1 (by assumption)⟩ | exact bbF (fun q => absurd q.1 (Int32.not_le.2 (by assumption))) | exact bbF (fun q => absurd q.2 (Int32.not_lt.2 (by assumption))), trivial⟩) hP hD hS dX8_hasSort_17

set_option maxHeartbeats 4000000 in
set_option maxRecDepth 100000 in
theorem c_X8_around (l : Launch) (D : va_G) (cI cZ cO : ClassId) (sz : Nat) (o0 : Nat) (o1 : Nat) (o2 : Nat) (o3 : Nat) (o4 : Nat) (o5 : Nat) (o6 : Nat) (xs : Nat → Int32) (ys : Nat → Int32) (rf : Nat → Int32) (bo : Nat → Int32) (pr : Nat → Int32) (bu : Nat → Int32) (n : Nat) (k : Nat) (wd : Int32) (wt : Bool) (h : Nat) (far : Int32) (hn : n ≤ 8) (hh : h < n) : xMi l yX8_around wsX8_around (1) (21) D (TY cI cZ cO) xG0 [.ref o0, .int (nI h), .int far] [(o0, .inr (7, [.ref o1, .ref o2, .ref o3, .ref o4, .ref o5, .ref o6, .int (nI n), .int (nI k), .int wd, .int (bb wt)])), (o1, .inl (cI, 8, .inl xs)), (o2, .inl (cI, 8, .inl ys)), (o3, .inl (cI, 8, .inl rf)), (o4, .inl (cI, 8, .inl bo)), (o5, .inl (cI, 4, .inl pr)), (o6, .inl (cI, 4, .inl bu))] sz (fun (rv_ : Int32) (u : Unit) => rv_ = (nI (mkM (fun g => arb xs ys h far g) n)) ∧ (True)) (fun (u : Unit) => [(o0, .inr (7, [.ref o1, .ref o2, .ref o3, .ref o4, .ref o5, .ref o6, .int (nI n), .int (nI k), .int wd, .int (bb wt)])), (o1, .inl (cI, 8, .inl xs)), (o2, .inl (cI, 8, .inl ys)), (o3, .inl (cI, 8, .inl rf)), (o4, .inl (cI, 8, .inl bo)), (o5, .inl (cI, 4, .inl pr)), (o6, .inl (cI, 4, .inl bu))]) := by
  refine xMi.of (cc := cX8_around) (maxL := 7) (by decide +kernel) rfl (Nat.le_of_ble_eq_true rfl) ?_
  intro p e s m below meth c A Q H hx hb hml hown hts hA hP hD hK hS hG hret ls hl
  have hown : s.vm.findClass RX8 = some m.cls := hown
  have hP : va_P D vwCl [(o0, .inr (7, [.ref o1, .ref o2, .ref o3, .ref o4, .ref o5, .ref o6, .int (nI n), .int (nI k), .int wd, .int (bb wt)])), (o1, .inl (cI, 8, .inl xs)), (o2, .inl (cI, 8, .inl ys)), (o3, .inl (cI, 8, .inl rf)), (o4, .inl (cI, 8, .inl bo)), (o5, .inl (cI, 4, .inl pr)), (o6, .inl (cI, 4, .inl bu))] H := hP
  have hD : va_D A [(o0, .inr (7, [.ref o1, .ref o2, .ref o3, .ref o4, .ref o5, .ref o6, .int (nI n), .int (nI k), .int wd, .int (bb wt)])), (o1, .inl (cI, 8, .inl xs)), (o2, .inl (cI, 8, .inl ys)), (o3, .inl (cI, 8, .inl rf)), (o4, .inl (cI, 8, .inl bo)), (o5, .inl (cI, 4, .inl pr)), (o6, .inl (cI, 4, .inl bu))] := hD
  have hl : lv_has ls 7 [(0, .ref o0), (1, .int (nI h)), (2, .int far)] := hl
  have w_0 := hts (.fieldLink RX8 30 "UnlikeRoofs$Town" "houses" "I") (List.mem_of_getElem? (i := 1) (by rfl))
  have w_1 := hts (.fieldLink RX8 9 "UnlikeRoofs$Town" "xs" "[I") (List.mem_of_getElem? (i := 2) (by rfl))
  have w_2 := hts (.methodLink RX8 76 Lib.Math.abs.name) (List.mem_of_getElem? (i := 3) (by rfl))
  have w_3 := hts (.static Lib.Math.abs.name) (List.mem_of_getElem? (i := 4) (by rfl))
  have w_4 := hts (.initialized "java/lang/Math") (List.mem_of_getElem? (i := 5) (by rfl))
  have w_5 := hts (.code Lib.Math.abs.name Lib.Math.abs.code 1 (some .int)) (List.mem_of_getElem? (i := 6) (by rfl))
  have w_6 := hts (.fieldLink RX8 15 "UnlikeRoofs$Town" "ys" "[I") (List.mem_of_getElem? (i := 7) (by rfl))
  have hin_X8 : ∀ w ∈ wsX80, w ∈ wsX8_around := fun _ h => List.mem_cons_of_mem _ (List.mem_append_right _ h)
  have _h0 : True := trivial
  refine lv_aload_n hx hb dX8_around_0 rfl (lv_at hl 0 rfl) ?_
  refine lv_iload_n hx hb dX8_around_1 rfl (lv_at hl 1 rfl) ?_
  refine xcV_i (As := [.int (nI h)]) (rest := []) (wc := [(o0, .inr (7, [.ref o1, .ref o2, .ref o3, .ref o4, .ref o5, .ref o6, .int (nI n), .int (nI k), .int wd, .int (bb wt)])), (o1, .inl (cI, 8, .inl xs)), (o2, .inl (cI, 8, .inl ys)), (o3, .inl (cI, 8, .inl rf)), (o4, .inl (cI, 8, .inl bo)), (o5, .inl (cI, 4, .inl pr)), (o6, .inl (cI, 4, .inl bu))]) (wr := []) (w3 := fun (u : Unit) => [(o0, .inr (7, [.ref o1, .ref o2, .ref o3, .ref o4, .ref o5, .ref o6, .int (nI n), .int (nI k), .int wd, .int (bb wt)])), (o1, .inl (cI, 8, .inl xs)), (o2, .inl (cI, 8, .inl ys)), (o3, .inl (cI, 8, .inl rf)), (o4, .inl (cI, 8, .inl bo)), (o5, .inl (cI, 4, .inl pr)), (o6, .inl (cI, 4, .inl bu))]) ⟨hx, hb, hml, hown, hts⟩ (c_X8_hasHouse_in l D cI cZ cO H.size o0 o1 o2 o3 o4 o5 o6 xs ys rf bo pr bu n k wd wt h (by first | assumption | omega | rfl) (by first | assumption | omega | rfl)) (cwV 1 hts gX8_around_X8_hasHouse rfl rfl rfl (by decide +kernel) ⟨Nat.le_of_ble_eq_true rfl, Nat.le_of_ble_eq_true rfl⟩) xGd0 xGd0 (fun _ _ _ _ => trivial) hG hP hD hK hS hA [0, 1, 2, 3, 4, 5, 6] [] [0, 1, 2, 3, 4, 5, 6] rfl rfl rfl rfl rfl 0 rfl rfl rfl (fun _ => rfl) rfl rfl hl.1 (Nat.le_of_ble_eq_true rfl) dX8_around_2 ⟨Nat.zero_le _, Nat.zero_le _⟩ (fun r u H locs hw hP hD hS => ?_)
  obtain ⟨rfl, hw⟩ := hw
  have hw_2 : True := hw
  have hP : va_P D vwCl [(o0, .inr (7, [.ref o1, .ref o2, .ref o3, .ref o4, .ref o5, .ref o6, .int (nI n), .int (nI k), .int wd, .int (bb wt)])), (o1, .inl (cI, 8, .inl xs)), (o2, .inl (cI, 8, .inl ys)), (o3, .inl (cI, 8, .inl rf)), (o4, .inl (cI, 8, .inl bo)), (o5, .inl (cI, 4, .inl pr)), (o6, .inl (cI, 4, .inl bu))] H := hP
  have hD : va_D A [(o0, .inr (7, [.ref o1, .ref o2, .ref o3, .ref o4, .ref o5, .ref o6, .int (nI n), .int (nI k), .int wd, .int (bb wt)])), (o1, .inl (cI, 8, .inl xs)), (o2, .inl (cI, 8, .inl ys)), (o3, .inl (cI, 8, .inl rf)), (o4, .inl (cI, 8, .inl bo)), (o5, .inl (cI, 4, .inl pr)), (o6, .inl (cI, 4, .inl bu))] := hD
  refine lv_if_ne (tgt := 10) hx hb dX8_around_5 (by decide) (fun c_5 => ?_) (fun c_5 => ?_)
  ·
    refine lv_iconst (v := (0 : Int32)) hx hb dX8_around_10 (by decide) ?_
    refine lv_istore_n (lv' := [(3, .int (0 : Int32)), (0, .ref o0), (1, .int (nI h)), (2, .int far)]) hx hb dX8_around_11 rfl hl (by decide) rfl (fun ls hl => ?_)
    refine lv_iconst (v := (0 : Int32)) hx hb dX8_around_12 (by decide) ?_
    refine lv_istore (lv' := [(4, .int (0 : Int32)), (3, .int (0 : Int32)), (0, .ref o0), (1, .int (nI h)), (2, .int far)]) hx hb dX8_around_13 hl (by decide) rfl (fun ls hl => ?_)
    have L_15 : ∀ (fuel : Nat) (b : Nat) (i : Nat), (i ≤ n) → (b = mkM (fun g => arb xs ys h far g) i) → (n - i) < fuel → ∀ (H : Heap) (locs : List Loc), va_P D vwCl [(o0, .inr (7, [.ref o1, .ref o2, .ref o3, .ref o4, .ref o5, .ref o6, .int (nI n), .int (nI k), .int wd, .int (bb wt)])), (o1, .inl (cI, 8, .inl xs)), (o2, .inl (cI, 8, .inl ys)), (o3, .inl (cI, 8, .inl rf)), (o4, .inl (cI, 8, .inl bo)), (o5, .inl (cI, 4, .inl pr)), (o6, .inl (cI, 4, .inl bu))] H → va_D A [(o0, .inr (7, [.ref o1, .ref o2, .ref o3, .ref o4, .ref o5, .ref o6, .int (nI n), .int (nI k), .int wd, .int (bb wt)])), (o1, .inl (cI, 8, .inl xs)), (o2, .inl (cI, 8, .inl ys)), (o3, .inl (cI, 8, .inl rf)), (o4, .inl (cI, 8, .inl bo)), (o5, .inl (cI, 4, .inl pr)), (o6, .inl (cI, 4, .inl bu))] → va_S A s.heap H locs → ∀ ls : Array Slot, lv_has ls 7 [(4, .int (nI i)), (3, .int (nI b)), (0, .ref o0), (1, .int (nI h)), (2, .int far)] → W p l e (xRm 1 21) s m ([.ref o0, .int (nI h), .int far] : List Value).toArray below meth c H locs 0 0 Q (F0 m 15 ls []) := by
      intro fuel
      induction fuel with
      | zero =>
        intro b i hi hbm hm
        exact absurd hm (Nat.not_lt_zero _)
      | succ fuel ih_15 =>
        intro b i hi hbm hm_15 H locs hP hD hS ls hl
        refine lv_iload hx hb dX8_around_15 (lv_at hl 0 rfl) ?_
        refine lv_aload_n hx hb dX8_around_17 rfl (lv_at hl 2 rfl) ?_
        refine va_get (D := D) (ci := 7) (v := .int (nI n)) (C := RX8) (T := TX8) (N := 10) hx hb hts hin_X8 hown hK hP 0 rfl rfl 6 (by decide) w_0 (fun _ h9 => h9) rfl dX8_around_18 ?_
        refine lv_icmp_ge (tgt := 94) hx hb dX8_around_21 (by decide) (fun c_21 => ?_) (fun c_21 => ?_)
        ·
          have n_21 : n ≤ i := (nI_leI (show n < 2147483648 by omega) (show i < 2147483648 by omega)).1 c_21
          refine lv_iload_n hx hb dX8_around_94 rfl (lv_at hl 1 rfl) ?_
          exact hret _ () _ _ _ _ (rfl) (⟨by rw [hbm, show i = n by omega], trivial⟩) hP hD hS dX8_around_95
        ·
          have n_21 : i < n := Nat.lt_of_not_le (fun q => c_21 ((nI_leI (show n < 2147483648 by omega) (show i < 2147483648 by omega)).2 q))
          refine lv_aload_n hx hb dX8_around_24 rfl (lv_at hl 2 rfl) ?_
          refine va_get (D := D) (ci := 7) (v := .ref o1) (C := RX8) (T := TX8) (N := 10) hx hb hts hin_X8 hown hK hP 0 rfl rfl 0 (by decide) w_1 (fun _ h9 => h9) rfl dX8_around_25 ?_
          refine lv_iload hx hb dX8_around_28 (lv_at hl 0 rfl) ?_
          refine x_iald hx hb hK hP 1 0 rfl rfl (j := i) (by omega) (by decide) dX8_around_30 ?_
          refine lv_aload_n hx hb dX8_around_31 rfl (lv_at hl 2 rfl) ?_
          refine va_get (D := D) (ci := 7) (v := .ref o1) (C := RX8) (T := TX8) (N := 10) hx hb hts hin_X8 hown hK hP 0 rfl rfl 0 (by decide) w_1 (fun _ h9 => h9) rfl dX8_around_32 ?_
          refine lv_iload_n hx hb dX8_around_35 rfl (lv_at hl 3 rfl) ?_
          refine x_iald hx hb hK hP 1 0 rfl rfl (j := h) (by omega) (by decide) dX8_around_36 ?_
          refine lv_isub hx hb dX8_around_37 ?_
          refine va_mabs hx hb (hml.trans hl.1.symm) hown w_2 w_3 w_4 w_5 (Nat.le_of_ble_eq_true rfl) (Nat.le_of_ble_eq_true rfl) (Nat.zero_le _) (Nat.zero_le _) dX8_around_38 ?_
          refine lv_topr (x' := xabs ((xs i) - (xs h))) (by rfl) ?_
          refine lv_istore (lv' := [(5, .int (xabs ((xs i) - (xs h)))), (4, .int (nI i)), (3, .int (nI b)), (0, .ref o0), (1, .int (nI h)), (2, .int far)]) hx hb dX8_around_41 hl (by decide) rfl (fun ls hl => ?_)
          refine lv_aload_n hx hb dX8_around_43 rfl (lv_at hl 3 rfl) ?_
          refine va_get (D := D) (ci := 7) (v := .ref o2) (C := RX8) (T := TX8) (N := 10) hx hb hts hin_X8 hown hK hP 0 rfl rfl 1 (by decide) w_6 (fun _ h9 => h9) rfl dX8_around_44 ?_
          refine lv_iload hx hb dX8_around_47 (lv_at hl 1 rfl) ?_
          refine x_iald hx hb hK hP 2 0 rfl rfl (j := i) (by omega) (by decide) dX8_around_49 ?_
          refine lv_aload_n hx hb dX8_around_50 rfl (lv_at hl 3 rfl) ?_
          refine va_get (D := D) (ci := 7) (v := .ref o2) (C := RX8) (T := TX8) (N := 10) hx hb hts hin_X8 hown hK hP 0 rfl rfl 1 (by decide) w_6 (fun _ h9 => h9) rfl dX8_around_51 ?_
          refine lv_iload_n hx hb dX8_around_54 rfl (lv_at hl 4 rfl) ?_
          refine x_iald hx hb hK hP 2 0 rfl rfl (j := h) (by omega) (by decide) dX8_around_55 ?_
          refine lv_isub hx hb dX8_around_56 ?_
          refine va_mabs hx hb (hml.trans hl.1.symm) hown w_2 w_3 w_4 w_5 (Nat.le_of_ble_eq_true rfl) (Nat.le_of_ble_eq_true rfl) (Nat.zero_le _) (Nat.zero_le _) dX8_around_57 ?_
          refine lv_topr (x' := xabs ((ys i) - (ys h))) (by rfl) ?_
          refine lv_istore (lv' := [(6, .int (xabs ((ys i) - (ys h)))), (5, .int (xabs ((xs i) - (xs h)))), (4, .int (nI i)), (3, .int (nI b)), (0, .ref o0), (1, .int (nI h)), (2, .int far)]) hx hb dX8_around_60 hl (by decide) rfl (fun ls hl => ?_)
          refine lv_iload hx hb dX8_around_62 (lv_at hl 1 rfl) ?_
          refine lv_iload hx hb dX8_around_64 (lv_at hl 0 rfl) ?_
          refine lv_iadd hx hb dX8_around_66 ?_
          refine lv_iload_n hx hb dX8_around_67 rfl (lv_at hl 6 rfl) ?_
          refine lv_icmp_ne (tgt := 88) hx hb dX8_around_68 (by decide) (fun c_68 => ?_) (fun c_68 => ?_)
          ·
            refine lv_iinc (v := nI (i + 1)) (lv' := [(4, .int (nI (i + 1))), (6, .int (xabs ((ys i) - (ys h)))), (5, .int (xabs ((xs i) - (xs h)))), (3, .int (nI b)), (0, .ref o0), (1, .int (nI h)), (2, .int far)]) hx hb dX8_around_88 hl (k := 2) rfl (by first | rfl | exact nI_add _ 1 | (simp only [] ; exact nI_add _ 1)) (by decide) rfl (fun ls hl => ?_)
            refine lv_goto (tgt := 15) hx hb dX8_around_91 (by decide) ?_
            exact ih_15 b (i + 1) (by omega) (by rw [mkM, if_neg (by first | exact arb_f1 c_68 | exact arb_f2 c_73 c_78), Nat.add_zero, hbm]) (by omega) _ _ hP hD hS _ (lv_sub hl [0, 3, 4, 5, 6] rfl)
          ·
            refine lv_iload hx hb dX8_around_71 (lv_at hl 1 rfl) ?_
            refine lv_if_eq (tgt := 81) hx hb dX8_around_73 (by decide) (fun c_73 => ?_) (fun c_73 => ?_)
            ·
              refine lv_iload_n hx hb dX8_around_81 rfl (lv_at hl 3 rfl) ?_
              refine lv_iconst (v := (1 : Int32)) hx hb dX8_around_82 (by decide) ?_
              refine lv_iload hx hb dX8_around_83 (lv_at hl 2 rfl) ?_
              refine lv_ishl hx hb dX8_around_85 ?_
              refine lv_ior hx hb dX8_around_86 ?_
              refine lv_topr (x' := nI (b + 2 ^ i)) (or1 (by rw [hbm]; exact mkM_lt _ i) (by omega)) ?_
              refine lv_istore_n (lv' := [(3, .int (nI (b + 2 ^ i))), (6, .int (xabs ((ys i) - (ys h)))), (5, .int (xabs ((xs i) - (xs h)))), (4, .int (nI i)), (0, .ref o0), (1, .int (nI h)), (2, .int far)]) hx hb dX8_around_87 rfl hl (by decide) rfl (fun ls hl => ?_)
              refine lv_iinc (v := nI (i + 1)) (lv' := [(4, .int (nI (i + 1))), (3, .int (nI (b + 2 ^ i))), (6, .int (xabs ((ys i) - (ys h)))), (5, .int (xabs ((xs i) - (xs h)))), (0, .ref o0), (1, .int (nI h)), (2, .int far)]) hx hb dX8_around_88 hl (k := 3) rfl (by first | rfl | exact nI_add _ 1 | (simp only [] ; exact nI_add _ 1)) (by decide) rfl (fun ls hl => ?_)
              refine lv_goto (tgt := 15) hx hb dX8_around_91 (by decide) ?_
              exact ih_15 (b + 2 ^ i) (i + 1) (by omega) (by rw [mkM, if_pos (arb_t c_68 (by first | exact Or.inl c_73 | exact Or.inr c_78)), hbm]) (by omega) _ _ hP hD hS _ (lv_sub hl [0, 1, 4, 5, 6] rfl)
            ·
              refine lv_iload hx hb dX8_around_76 (lv_at hl 0 rfl) ?_
              refine lv_if_ne (tgt := 88) hx hb dX8_around_78 (by decide) (fun c_78 => ?_) (fun c_78 => ?_)
              ·
                refine lv_iinc (v := nI (i + 1)) (lv' := [(4, .int (nI (i + 1))), (6, .int (xabs ((ys i) - (ys h)))), (5, .int (xabs ((xs i) - (xs h)))), (3, .int (nI b)), (0, .ref o0), (1, .int (nI h)), (2, .int far)]) hx hb dX8_around_88 hl (k := 2) rfl (by first | rfl | exact nI_add _ 1 | (simp only [] ; exact nI_add _ 1)) (by decide) rfl (fun ls hl => ?_)
                refine lv_goto (tgt := 15) hx hb dX8_around_91 (by decide) ?_
                exact ih_15 b (i + 1) (by omega) (by rw [mkM, if_neg (by first | exact arb_f1 c_68 | exact arb_f2 c_73 c_78), Nat.add_zero, hbm]) (by omega) _ _ hP hD hS _ (lv_sub hl [0, 3, 4, 5, 6] rfl)
              ·
                refine lv_iload_n hx hb dX8_around_81 rfl (lv_at hl 3 rfl) ?_
                refine lv_iconst (v := (1 : Int32)) hx hb dX8_around_82 (by decide) ?_
                refine lv_iload hx hb dX8_around_83 (lv_at hl 2 rfl) ?_
                refine lv_ishl hx hb dX8_around_85 ?_
                refine lv_ior hx hb dX8_around_86 ?_
                refine lv_topr (x' := nI (b + 2 ^ i)) (or1 (by rw [hbm]; exact mkM_lt _ i) (by omega)) ?_
                refine lv_istore_n (lv' := [(3, .int (nI (b + 2 ^ i))), (6, .int (xabs ((ys i) - (ys h)))), (5, .int (xabs ((xs i) - (xs h)))), (4, .int (nI i)), (0, .ref o0), (1, .int (nI h)), (2, .int far)]) hx hb dX8_around_87 rfl hl (by decide) rfl (fun ls hl => ?_)
                refine lv_iinc (v := nI (i + 1)) (lv' := [(4, .int (nI (i + 1))), (3, .int (nI (b + 2 ^ i))), (6, .int (xabs ((ys i) - (ys h)))), (5, .int (xabs ((xs i) - (xs h)))), (0, .ref o0), (1, .int (nI h)), (2, .int far)]) hx hb dX8_around_88 hl (k := 3) rfl (by first | rfl | exact nI_add _ 1 | (simp only [] ; exact nI_add _ 1)) (by decide) rfl (fun ls hl => ?_)
                refine lv_goto (tgt := 15) hx hb dX8_around_91 (by decide) ?_
                exact ih_15 (b + 2 ^ i) (i + 1) (by omega) (by rw [mkM, if_pos (arb_t c_68 (by first | exact Or.inl c_73 | exact Or.inr c_78)), hbm]) (by omega) _ _ hP hD hS _ (lv_sub hl [0, 1, 4, 5, 6] rfl)
    exact L_15 (Nat.succ (n - 0)) 0 0 (Nat.zero_le _) (rfl) (Nat.lt_succ_self _) _ _ hP hD hS _ (lv_sub hl [0, 1, 2, 3, 4] rfl)
  ·
    exact absurd c_5 (by decide)

set_option maxHeartbeats 4000000 in
set_option maxRecDepth 100000 in
theorem c_X8_priceOf (l : Launch) (D : va_G) (cI cZ cO : ClassId) (sz : Nat) (o0 : Nat) (o1 : Nat) (o2 : Nat) (o3 : Nat) (o4 : Nat) (o5 : Nat) (o6 : Nat) (xs : Nat → Int32) (ys : Nat → Int32) (rf : Nat → Int32) (bo : Nat → Int32) (pr : Nat → Int32) (bu : Nat → Int32) (n : Nat) (k : Nat) (wd : Int32) (wt : Bool) (sv : Int32) (hk : k ≤ 4) : xMi l yX8_priceOf wsX8_priceOf (1) (21) D (TY cI cZ cO) xG0 [.ref o0, .int sv] [(o0, .inr (7, [.ref o1, .ref o2, .ref o3, .ref o4, .ref o5, .ref o6, .int (nI n), .int (nI k), .int wd, .int (bb wt)])), (o1, .inl (cI, 8, .inl xs)), (o2, .inl (cI, 8, .inl ys)), (o3, .inl (cI, 8, .inl rf)), (o4, .inl (cI, 8, .inl bo)), (o5, .inl (cI, 4, .inl pr)), (o6, .inl (cI, 4, .inl bu))] sz (fun (rv_ : Int32) (u : Unit) => rv_ = (prOf pr k sv) ∧ (True)) (fun (u : Unit) => [(o0, .inr (7, [.ref o1, .ref o2, .ref o3, .ref o4, .ref o5, .ref o6, .int (nI n), .int (nI k), .int wd, .int (bb wt)])), (o1, .inl (cI, 8, .inl xs)), (o2, .inl (cI, 8, .inl ys)), (o3, .inl (cI, 8, .inl rf)), (o4, .inl (cI, 8, .inl bo)), (o5, .inl (cI, 4, .inl pr)), (o6, .inl (cI, 4, .inl bu))]) := by
  refine xMi.of (cc := cX8_priceOf) (maxL := 2) (by decide +kernel) rfl (Nat.le_of_ble_eq_true rfl) ?_
  intro p e s m below meth c A Q H hx hb hml hown hts hA hP hD hK hS hG hret ls hl
  have hown : s.vm.findClass RX8 = some m.cls := hown
  have hP : va_P D vwCl [(o0, .inr (7, [.ref o1, .ref o2, .ref o3, .ref o4, .ref o5, .ref o6, .int (nI n), .int (nI k), .int wd, .int (bb wt)])), (o1, .inl (cI, 8, .inl xs)), (o2, .inl (cI, 8, .inl ys)), (o3, .inl (cI, 8, .inl rf)), (o4, .inl (cI, 8, .inl bo)), (o5, .inl (cI, 4, .inl pr)), (o6, .inl (cI, 4, .inl bu))] H := hP
  have hD : va_D A [(o0, .inr (7, [.ref o1, .ref o2, .ref o3, .ref o4, .ref o5, .ref o6, .int (nI n), .int (nI k), .int wd, .int (bb wt)])), (o1, .inl (cI, 8, .inl xs)), (o2, .inl (cI, 8, .inl ys)), (o3, .inl (cI, 8, .inl rf)), (o4, .inl (cI, 8, .inl bo)), (o5, .inl (cI, 4, .inl pr)), (o6, .inl (cI, 4, .inl bu))] := hD
  have hl : lv_has ls 2 [(0, .ref o0), (1, .int sv)] := hl
  have w_0 := hts (.fieldLink RX8 24 "UnlikeRoofs$Town" "prices" "[I") (List.mem_of_getElem? (i := 1) (by rfl))
  have hin_X8 : ∀ w ∈ wsX80, w ∈ wsX8_priceOf := fun _ h => List.mem_cons_of_mem _ (List.mem_append_right _ h)
  have _h0 : True := trivial
  refine lv_aload_n hx hb dX8_priceOf_0 rfl (lv_at hl 0 rfl) ?_
  refine lv_iload_n hx hb dX8_priceOf_1 rfl (lv_at hl 1 rfl) ?_
  refine xcV_i (As := [.int sv]) (rest := []) (wc := [(o0, .inr (7, [.ref o1, .ref o2, .ref o3, .ref o4, .ref o5, .ref o6, .int (nI n), .int (nI k), .int wd, .int (bb wt)])), (o1, .inl (cI, 8, .inl xs)), (o2, .inl (cI, 8, .inl ys)), (o3, .inl (cI, 8, .inl rf)), (o4, .inl (cI, 8, .inl bo)), (o5, .inl (cI, 4, .inl pr)), (o6, .inl (cI, 4, .inl bu))]) (wr := []) (w3 := fun (u : Unit) => [(o0, .inr (7, [.ref o1, .ref o2, .ref o3, .ref o4, .ref o5, .ref o6, .int (nI n), .int (nI k), .int wd, .int (bb wt)])), (o1, .inl (cI, 8, .inl xs)), (o2, .inl (cI, 8, .inl ys)), (o3, .inl (cI, 8, .inl rf)), (o4, .inl (cI, 8, .inl bo)), (o5, .inl (cI, 4, .inl pr)), (o6, .inl (cI, 4, .inl bu))]) ⟨hx, hb, hml, hown, hts⟩ (c_X8_hasSort l D cI cZ cO H.size o0 o1 o2 o3 o4 o5 o6 xs ys rf bo pr bu n k wd wt sv (by first | assumption | omega | rfl)) (cwV 1 hts gX8_priceOf_X8_hasSort rfl rfl rfl (by decide +kernel) ⟨Nat.le_of_ble_eq_true rfl, Nat.le_of_ble_eq_true rfl⟩) xGd0 xGd0 (fun _ _ _ _ => trivial) hG hP hD hK hS hA [0, 1, 2, 3, 4, 5, 6] [] [0, 1, 2, 3, 4, 5, 6] rfl rfl rfl rfl rfl 0 rfl rfl rfl (fun _ => rfl) rfl rfl hl.1 (Nat.le_of_ble_eq_true rfl) dX8_priceOf_2 ⟨Nat.zero_le _, Nat.zero_le _⟩ (fun r u H locs hw hP hD hS => ?_)
  obtain ⟨rfl, hw⟩ := hw
  have hw_2 : True := hw
  have hP : va_P D vwCl [(o0, .inr (7, [.ref o1, .ref o2, .ref o3, .ref o4, .ref o5, .ref o6, .int (nI n), .int (nI k), .int wd, .int (bb wt)])), (o1, .inl (cI, 8, .inl xs)), (o2, .inl (cI, 8, .inl ys)), (o3, .inl (cI, 8, .inl rf)), (o4, .inl (cI, 8, .inl bo)), (o5, .inl (cI, 4, .inl pr)), (o6, .inl (cI, 4, .inl bu))] H := hP
  have hD : va_D A [(o0, .inr (7, [.ref o1, .ref o2, .ref o3, .ref o4, .ref o5, .ref o6, .int (nI n), .int (nI k), .int wd, .int (bb wt)])), (o1, .inl (cI, 8, .inl xs)), (o2, .inl (cI, 8, .inl ys)), (o3, .inl (cI, 8, .inl rf)), (o4, .inl (cI, 8, .inl bo)), (o5, .inl (cI, 4, .inl pr)), (o6, .inl (cI, 4, .inl bu))] := hD
  refine lv_if_eq (tgt := 17) hx hb dX8_priceOf_5 (by decide) (fun c_5 => ?_) (fun c_5 => ?_)
  ·
    have b_5 : (inb sv k) = false := bb_eq0 c_5
    refine lv_iconst (v := (0 : Int32)) hx hb dX8_priceOf_17 (by decide) ?_
    exact hret _ () _ _ _ _ (rfl) (⟨by first | (rw [ej, prOf_t hj (by omega)]) | (rw [prOf_f b_5]), trivial⟩) hP hD hS dX8_priceOf_18
  ·
    have b_5 : (inb sv k) = true := bb_neq0 c_5
    refine lv_aload_n hx hb dX8_priceOf_8 rfl (lv_at hl 0 rfl) ?_
    refine va_get (D := D) (ci := 7) (v := .ref o5) (C := RX8) (T := TX8) (N := 10) hx hb hts hin_X8 hown hK hP 0 rfl rfl 4 (by decide) w_0 (fun _ h9 => h9) rfl dX8_priceOf_9 ?_
    refine lv_iload_n hx hb dX8_priceOf_12 rfl (lv_at hl 1 rfl) ?_
    obtain ⟨j, hj, ej⟩ := inb_nI (by omega) b_5
    refine lv_topr ej ?_
    refine x_iald hx hb hK hP 5 0 rfl rfl (j := j) (by omega) (by decide) dX8_priceOf_13 ?_
    refine lv_goto (tgt := 18) hx hb dX8_priceOf_14 (by decide) ?_
    exact hret _ () _ _ _ _ (rfl) (⟨by first | (rw [ej, prOf_t hj (by omega)]) | (rw [prOf_f b_5]), trivial⟩) hP hD hS dX8_priceOf_18

set_option maxHeartbeats 4000000 in
set_option maxRecDepth 100000 in
theorem c_X8_burnOf (l : Launch) (D : va_G) (cI cZ cO : ClassId) (sz : Nat) (o0 : Nat) (o1 : Nat) (o2 : Nat) (o3 : Nat) (o4 : Nat) (o5 : Nat) (o6 : Nat) (xs : Nat → Int32) (ys : Nat → Int32) (rf : Nat → Int32) (bo : Nat → Int32) (pr : Nat → Int32) (bu : Nat → Int32) (n : Nat) (k : Nat) (wd : Int32) (wt : Bool) (sv : Int32) (hk : k ≤ 4) : xMi l yX8_burnOf wsX8_burnOf (1) (21) D (TY cI cZ cO) xG0 [.ref o0, .int sv] [(o0, .inr (7, [.ref o1, .ref o2, .ref o3, .ref o4, .ref o5, .ref o6, .int (nI n), .int (nI k), .int wd, .int (bb wt)])), (o1, .inl (cI, 8, .inl xs)), (o2, .inl (cI, 8, .inl ys)), (o3, .inl (cI, 8, .inl rf)), (o4, .inl (cI, 8, .inl bo)), (o5, .inl (cI, 4, .inl pr)), (o6, .inl (cI, 4, .inl bu))] sz (fun (rv_ : Int32) (u : Unit) => rv_ = (prOf bu k sv) ∧ (True)) (fun (u : Unit) => [(o0, .inr (7, [.ref o1, .ref o2, .ref o3, .ref o4, .ref o5, .ref o6, .int (nI n), .int (nI k), .int wd, .int (bb wt)])), (o1, .inl (cI, 8, .inl xs)), (o2, .inl (cI, 8, .inl ys)), (o3, .inl (cI, 8, .inl rf)), (o4, .inl (cI, 8, .inl bo)), (o5, .inl (cI, 4, .inl pr)), (o6, .inl (cI, 4, .inl bu))]) := by
  refine xMi.of (cc := cX8_burnOf) (maxL := 2) (by decide +kernel) rfl (Nat.le_of_ble_eq_true rfl) ?_
  intro p e s m below meth c A Q H hx hb hml hown hts hA hP hD hK hS hG hret ls hl
  have hown : s.vm.findClass RX8 = some m.cls := hown
  have hP : va_P D vwCl [(o0, .inr (7, [.ref o1, .ref o2, .ref o3, .ref o4, .ref o5, .ref o6, .int (nI n), .int (nI k), .int wd, .int (bb wt)])), (o1, .inl (cI, 8, .inl xs)), (o2, .inl (cI, 8, .inl ys)), (o3, .inl (cI, 8, .inl rf)), (o4, .inl (cI, 8, .inl bo)), (o5, .inl (cI, 4, .inl pr)), (o6, .inl (cI, 4, .inl bu))] H := hP
  have hD : va_D A [(o0, .inr (7, [.ref o1, .ref o2, .ref o3, .ref o4, .ref o5, .ref o6, .int (nI n), .int (nI k), .int wd, .int (bb wt)])), (o1, .inl (cI, 8, .inl xs)), (o2, .inl (cI, 8, .inl ys)), (o3, .inl (cI, 8, .inl rf)), (o4, .inl (cI, 8, .inl bo)), (o5, .inl (cI, 4, .inl pr)), (o6, .inl (cI, 4, .inl bu))] := hD
  have hl : lv_has ls 2 [(0, .ref o0), (1, .int sv)] := hl
  have w_0 := hts (.fieldLink RX8 27 "UnlikeRoofs$Town" "burns" "[I") (List.mem_of_getElem? (i := 1) (by rfl))
  have hin_X8 : ∀ w ∈ wsX80, w ∈ wsX8_burnOf := fun _ h => List.mem_cons_of_mem _ (List.mem_append_right _ h)
  have _h0 : True := trivial
  refine lv_aload_n hx hb dX8_burnOf_0 rfl (lv_at hl 0 rfl) ?_
  refine lv_iload_n hx hb dX8_burnOf_1 rfl (lv_at hl 1 rfl) ?_
  refine xcV_i (As := [.int sv]) (rest := []) (wc := [(o0, .inr (7, [.ref o1, .ref o2, .ref o3, .ref o4, .ref o5, .ref o6, .int (nI n), .int (nI k), .int wd, .int (bb wt)])), (o1, .inl (cI, 8, .inl xs)), (o2, .inl (cI, 8, .inl ys)), (o3, .inl (cI, 8, .inl rf)), (o4, .inl (cI, 8, .inl bo)), (o5, .inl (cI, 4, .inl pr)), (o6, .inl (cI, 4, .inl bu))]) (wr := []) (w3 := fun (u : Unit) => [(o0, .inr (7, [.ref o1, .ref o2, .ref o3, .ref o4, .ref o5, .ref o6, .int (nI n), .int (nI k), .int wd, .int (bb wt)])), (o1, .inl (cI, 8, .inl xs)), (o2, .inl (cI, 8, .inl ys)), (o3, .inl (cI, 8, .inl rf)), (o4, .inl (cI, 8, .inl bo)), (o5, .inl (cI, 4, .inl pr)), (o6, .inl (cI, 4, .inl bu))]) ⟨hx, hb, hml, hown, hts⟩ (c_X8_hasSort l D cI cZ cO H.size o0 o1 o2 o3 o4 o5 o6 xs ys rf bo pr bu n k wd wt sv (by first | assumption | omega | rfl)) (cwV 1 hts gX8_burnOf_X8_hasSort rfl rfl rfl (by decide +kernel) ⟨Nat.le_of_ble_eq_true rfl, Nat.le_of_ble_eq_true rfl⟩) xGd0 xGd0 (fun _ _ _ _ => trivial) hG hP hD hK hS hA [0, 1, 2, 3, 4, 5, 6] [] [0, 1, 2, 3, 4, 5, 6] rfl rfl rfl rfl rfl 0 rfl rfl rfl (fun _ => rfl) rfl rfl hl.1 (Nat.le_of_ble_eq_true rfl) dX8_burnOf_2 ⟨Nat.zero_le _, Nat.zero_le _⟩ (fun r u H locs hw hP hD hS => ?_)
  obtain ⟨rfl, hw⟩ := hw
  have hw_2 : True := hw
  have hP : va_P D vwCl [(o0, .inr (7, [.ref o1, .ref o2, .ref o3, .ref o4, .ref o5, .ref o6, .int (nI n), .int (nI k), .int wd, .int (bb wt)])), (o1, .inl (cI, 8, .inl xs)), (o2, .inl (cI, 8, .inl ys)), (o3, .inl (cI, 8, .inl rf)), (o4, .inl (cI, 8, .inl bo)), (o5, .inl (cI, 4, .inl pr)), (o6, .inl (cI, 4, .inl bu))] H := hP
  have hD : va_D A [(o0, .inr (7, [.ref o1, .ref o2, .ref o3, .ref o4, .ref o5, .ref o6, .int (nI n), .int (nI k), .int wd, .int (bb wt)])), (o1, .inl (cI, 8, .inl xs)), (o2, .inl (cI, 8, .inl ys)), (o3, .inl (cI, 8, .inl rf)), (o4, .inl (cI, 8, .inl bo)), (o5, .inl (cI, 4, .inl pr)), (o6, .inl (cI, 4, .inl bu))] := hD
  refine lv_if_eq (tgt := 17) hx hb dX8_burnOf_5 (by decide) (fun c_5 => ?_) (fun c_5 => ?_)
  ·
    have b_5 : (inb sv k) = false := bb_eq0 c_5
    refine lv_iconst (v := (0 : Int32)) hx hb dX8_burnOf_17 (by decide) ?_
    exact hret _ () _ _ _ _ (rfl) (⟨by first | (rw [ej, prOf_t hj (by omega)]) | (rw [prOf_f b_5]), trivial⟩) hP hD hS dX8_burnOf_18
  ·
    have b_5 : (inb sv k) = true := bb_neq0 c_5
    refine lv_aload_n hx hb dX8_burnOf_8 rfl (lv_at hl 0 rfl) ?_
    refine va_get (D := D) (ci := 7) (v := .ref o6) (C := RX8) (T := TX8) (N := 10) hx hb hts hin_X8 hown hK hP 0 rfl rfl 5 (by decide) w_0 (fun _ h9 => h9) rfl dX8_burnOf_9 ?_
    refine lv_iload_n hx hb dX8_burnOf_12 rfl (lv_at hl 1 rfl) ?_
    obtain ⟨j, hj, ej⟩ := inb_nI (by omega) b_5
    refine lv_topr ej ?_
    refine x_iald hx hb hK hP 6 0 rfl rfl (j := j) (by omega) (by decide) dX8_burnOf_13 ?_
    refine lv_goto (tgt := 18) hx hb dX8_burnOf_14 (by decide) ?_
    exact hret _ () _ _ _ _ (rfl) (⟨by first | (rw [ej, prOf_t hj (by omega)]) | (rw [prOf_f b_5]), trivial⟩) hP hD hS dX8_burnOf_18

set_option maxHeartbeats 4000000 in
set_option maxRecDepth 100000 in
theorem c_X8_isBoundElse (l : Launch) (D : va_G) (cI cZ cO : ClassId) (sz : Nat) (o0 : Nat) (o1 : Nat) (o2 : Nat) (o3 : Nat) (o4 : Nat) (o5 : Nat) (o6 : Nat) (xs : Nat → Int32) (ys : Nat → Int32) (rf : Nat → Int32) (bo : Nat → Int32) (pr : Nat → Int32) (bu : Nat → Int32) (n : Nat) (k : Nat) (wd : Int32) (wt : Bool) (h : Nat) (sv : Int32) (hn : n ≤ 8) (hh : h < n) : xMi l yX8_isBoundElse wsX8_isBoundElse (1) (21) D (TY cI cZ cO) xG0 [.ref o0, .int (nI h), .int sv] [(o0, .inr (7, [.ref o1, .ref o2, .ref o3, .ref o4, .ref o5, .ref o6, .int (nI n), .int (nI k), .int wd, .int (bb wt)])), (o1, .inl (cI, 8, .inl xs)), (o2, .inl (cI, 8, .inl ys)), (o3, .inl (cI, 8, .inl rf)), (o4, .inl (cI, 8, .inl bo)), (o5, .inl (cI, 4, .inl pr)), (o6, .inl (cI, 4, .inl bu))] sz (fun (rv_ : Int32) (u : Unit) => rv_ = (bb (decide (¬ bo h = (-9) ∧ ¬ bo h = sv))) ∧ (True)) (fun (u : Unit) => [(o0, .inr (7, [.ref o1, .ref o2, .ref o3, .ref o4, .ref o5, .ref o6, .int (nI n), .int (nI k), .int wd, .int (bb wt)])), (o1, .inl (cI, 8, .inl xs)), (o2, .inl (cI, 8, .inl ys)), (o3, .inl (cI, 8, .inl rf)), (o4, .inl (cI, 8, .inl bo)), (o5, .inl (cI, 4, .inl pr)), (o6, .inl (cI, 4, .inl bu))]) := by
  refine xMi.of (cc := cX8_isBoundElse) (maxL := 3) (by decide +kernel) rfl (Nat.le_of_ble_eq_true rfl) ?_
  intro p e s m below meth c A Q H hx hb hml hown hts hA hP hD hK hS hG hret ls hl
  have hown : s.vm.findClass RX8 = some m.cls := hown
  have hP : va_P D vwCl [(o0, .inr (7, [.ref o1, .ref o2, .ref o3, .ref o4, .ref o5, .ref o6, .int (nI n), .int (nI k), .int wd, .int (bb wt)])), (o1, .inl (cI, 8, .inl xs)), (o2, .inl (cI, 8, .inl ys)), (o3, .inl (cI, 8, .inl rf)), (o4, .inl (cI, 8, .inl bo)), (o5, .inl (cI, 4, .inl pr)), (o6, .inl (cI, 4, .inl bu))] H := hP
  have hD : va_D A [(o0, .inr (7, [.ref o1, .ref o2, .ref o3, .ref o4, .ref o5, .ref o6, .int (nI n), .int (nI k), .int wd, .int (bb wt)])), (o1, .inl (cI, 8, .inl xs)), (o2, .inl (cI, 8, .inl ys)), (o3, .inl (cI, 8, .inl rf)), (o4, .inl (cI, 8, .inl bo)), (o5, .inl (cI, 4, .inl pr)), (o6, .inl (cI, 4, .inl bu))] := hD
  have hl : lv_has ls 3 [(0, .ref o0), (1, .int (nI h)), (2, .int sv)] := hl
  have w_0 := hts (.fieldLink RX8 21 "UnlikeRoofs$Town" "bounds" "[I") (List.mem_of_getElem? (i := 1) (by rfl))
  have hin_X8 : ∀ w ∈ wsX80, w ∈ wsX8_isBoundElse := fun _ h => List.mem_cons_of_mem _ (List.mem_append_right _ h)
  have _h0 : True := trivial
  refine lv_aload_n hx hb dX8_isBoundElse_0 rfl (lv_at hl 0 rfl) ?_
  refine lv_iload_n hx hb dX8_isBoundElse_1 rfl (lv_at hl 1 rfl) ?_
  refine xcV_i (As := [.int (nI h)]) (rest := []) (wc := [(o0, .inr (7, [.ref o1, .ref o2, .ref o3, .ref o4, .ref o5, .ref o6, .int (nI n), .int (nI k), .int wd, .int (bb wt)])), (o1, .inl (cI, 8, .inl xs)), (o2, .inl (cI, 8, .inl ys)), (o3, .inl (cI, 8, .inl rf)), (o4, .inl (cI, 8, .inl bo)), (o5, .inl (cI, 4, .inl pr)), (o6, .inl (cI, 4, .inl bu))]) (wr := []) (w3 := fun (u : Unit) => [(o0, .inr (7, [.ref o1, .ref o2, .ref o3, .ref o4, .ref o5, .ref o6, .int (nI n), .int (nI k), .int wd, .int (bb wt)])), (o1, .inl (cI, 8, .inl xs)), (o2, .inl (cI, 8, .inl ys)), (o3, .inl (cI, 8, .inl rf)), (o4, .inl (cI, 8, .inl bo)), (o5, .inl (cI, 4, .inl pr)), (o6, .inl (cI, 4, .inl bu))]) ⟨hx, hb, hml, hown, hts⟩ (c_X8_hasHouse_in l D cI cZ cO H.size o0 o1 o2 o3 o4 o5 o6 xs ys rf bo pr bu n k wd wt h (by first | assumption | omega | rfl) (by first | assumption | omega | rfl)) (cwV 1 hts gX8_isBoundElse_X8_hasHouse rfl rfl rfl (by decide +kernel) ⟨Nat.le_of_ble_eq_true rfl, Nat.le_of_ble_eq_true rfl⟩) xGd0 xGd0 (fun _ _ _ _ => trivial) hG hP hD hK hS hA [0, 1, 2, 3, 4, 5, 6] [] [0, 1, 2, 3, 4, 5, 6] rfl rfl rfl rfl rfl 0 rfl rfl rfl (fun _ => rfl) rfl rfl hl.1 (Nat.le_of_ble_eq_true rfl) dX8_isBoundElse_2 ⟨Nat.zero_le _, Nat.zero_le _⟩ (fun r u H locs hw hP hD hS => ?_)
  obtain ⟨rfl, hw⟩ := hw
  have hw_2 : True := hw
  have hP : va_P D vwCl [(o0, .inr (7, [.ref o1, .ref o2, .ref o3, .ref o4, .ref o5, .ref o6, .int (nI n), .int (nI k), .int wd, .int (bb wt)])), (o1, .inl (cI, 8, .inl xs)), (o2, .inl (cI, 8, .inl ys)), (o3, .inl (cI, 8, .inl rf)), (o4, .inl (cI, 8, .inl bo)), (o5, .inl (cI, 4, .inl pr)), (o6, .inl (cI, 4, .inl bu))] H := hP
  have hD : va_D A [(o0, .inr (7, [.ref o1, .ref o2, .ref o3, .ref o4, .ref o5, .ref o6, .int (nI n), .int (nI k), .int wd, .int (bb wt)])), (o1, .inl (cI, 8, .inl xs)), (o2, .inl (cI, 8, .inl ys)), (o3, .inl (cI, 8, .inl rf)), (o4, .inl (cI, 8, .inl bo)), (o5, .inl (cI, 4, .inl pr)), (o6, .inl (cI, 4, .inl bu))] := hD
  refine lv_if_eq (tgt := 33) hx hb dX8_isBoundElse_5 (by decide) (fun c_5 => ?_) (fun c_5 => ?_)
  ·
    exact absurd c_5 (by decide)
  ·
    refine lv_aload_n hx hb dX8_isBoundElse_8 rfl (lv_at hl 0 rfl) ?_
    refine va_get (D := D) (ci := 7) (v := .ref o4) (C := RX8) (T := TX8) (N := 10) hx hb hts hin_X8 hown hK hP 0 rfl rfl 3 (by decide) w_0 (fun _ h9 => h9) rfl dX8_isBoundElse_9 ?_
    refine lv_iload_n hx hb dX8_isBoundElse_12 rfl (lv_at hl 1 rfl) ?_
    refine x_iald hx hb hK hP 4 0 rfl rfl (j := h) (by omega) (by decide) dX8_isBoundElse_13 ?_
    refine lv_bipush (v := (-9 : Int32)) hx hb dX8_isBoundElse_14 (by decide) ?_
    refine lv_icmp_eq (tgt := 33) hx hb dX8_isBoundElse_16 (by decide) (fun c_16 => ?_) (fun c_16 => ?_)
    ·
      refine lv_iconst (v := (0 : Int32)) hx hb dX8_isBoundElse_33 (by decide) ?_
      exact hret _ () _ _ _ _ (rfl) (⟨by first | exact bbT ⟨c_16, c_26⟩ | exact bbF (fun q => q.1 c_16) | exact bbF (fun q => q.2 c_26), trivial⟩) hP hD hS dX8_isBoundElse_34
    ·
      refine lv_aload_n hx hb dX8_isBoundElse_19 rfl (lv_at hl 0 rfl) ?_
      refine va_get (D := D) (ci := 7) (v := .ref o4) (C := RX8) (T := TX8) (N := 10) hx hb hts hin_X8 hown hK hP 0 rfl rfl 3 (by decide) w_0 (fun _ h9 => h9) rfl dX8_isBoundElse_20 ?_
      refine lv_iload_n hx hb dX8_isBoundElse_23 rfl (lv_at hl 1 rfl) ?_
      refine x_iald hx hb hK hP 4 0 rfl rfl (j := h) (by omega) (by decide) dX8_isBoundElse_24 ?_
      refine lv_iload_n hx hb dX8_isBoundElse_25 rfl (lv_at hl 2 rfl) ?_
      refine lv_icmp_eq (tgt := 33) hx hb dX8_isBoundElse_26 (by decide) (fun c_26 => ?_) (fun c_26 => ?_)
      ·
        refine lv_iconst (v := (0 : Int32)) hx hb dX8_isBoundElse_33 (by decide) ?_
        exact hret _ () _ _ _ _ (rfl) (⟨by first | exact bbT ⟨c_16, c_26⟩ | exact bbF (fun q => q.1 c_16) | exact bbF (fun q => q.2 c_26), trivial⟩) hP hD hS dX8_isBoundElse_34
      ·
        refine lv_iconst (v := (1 : Int32)) hx hb dX8_isBoundElse_29 (by decide) ?_
        refine lv_goto (tgt := 34) hx hb dX8_isBoundElse_30 (by decide) ?_
        exact hret _ () _ _ _ _ (rfl) (⟨by first | exact bbT ⟨c_16, c_26⟩ | exact bbF (fun q => q.1 c_16) | exact bbF (fun q => q.2 c_26), trivial⟩) hP hD hS dX8_isBoundElse_34

set_option maxHeartbeats 4000000 in
set_option maxRecDepth 100000 in
theorem c_X8_canBurn (l : Launch) (D : va_G) (cI cZ cO : ClassId) (sz : Nat) (o0 : Nat) (o1 : Nat) (o2 : Nat) (o3 : Nat) (o4 : Nat) (o5 : Nat) (o6 : Nat) (xs : Nat → Int32) (ys : Nat → Int32) (rf : Nat → Int32) (bo : Nat → Int32) (pr : Nat → Int32) (bu : Nat → Int32) (n : Nat) (k : Nat) (wd : Int32) (wt : Bool) (h : Nat) (hn : n ≤ 8) (hk : k ≤ 4) (hh : h < n) : xMi l yX8_canBurn wsX8_canBurn (2) (42) D (TY cI cZ cO) xG0 [.ref o0, .int (nI h)] [(o0, .inr (7, [.ref o1, .ref o2, .ref o3, .ref o4, .ref o5, .ref o6, .int (nI n), .int (nI k), .int wd, .int (bb wt)])), (o1, .inl (cI, 8, .inl xs)), (o2, .inl (cI, 8, .inl ys)), (o3, .inl (cI, 8, .inl rf)), (o4, .inl (cI, 8, .inl bo)), (o5, .inl (cI, 4, .inl pr)), (o6, .inl (cI, 4, .inl bu))] sz (fun (rv_ : Int32) (u : Unit) => rv_ = (bb (decide (0 < prOf bu k (rf h)))) ∧ (True)) (fun (u : Unit) => [(o0, .inr (7, [.ref o1, .ref o2, .ref o3, .ref o4, .ref o5, .ref o6, .int (nI n), .int (nI k), .int wd, .int (bb wt)])), (o1, .inl (cI, 8, .inl xs)), (o2, .inl (cI, 8, .inl ys)), (o3, .inl (cI, 8, .inl rf)), (o4, .inl (cI, 8, .inl bo)), (o5, .inl (cI, 4, .inl pr)), (o6, .inl (cI, 4, .inl bu))]) := by
  refine xMi.of (cc := cX8_canBurn) (maxL := 2) (by decide +kernel) rfl (Nat.le_of_ble_eq_true rfl) ?_
  intro p e s m below meth c A Q H hx hb hml hown hts hA hP hD hK hS hG hret ls hl
  have hown : s.vm.findClass RX8 = some m.cls := hown
  have hP : va_P D vwCl [(o0, .inr (7, [.ref o1, .ref o2, .ref o3, .ref o4, .ref o5, .ref o6, .int (nI n), .int (nI k), .int wd, .int (bb wt)])), (o1, .inl (cI, 8, .inl xs)), (o2, .inl (cI, 8, .inl ys)), (o3, .inl (cI, 8, .inl rf)), (o4, .inl (cI, 8, .inl bo)), (o5, .inl (cI, 4, .inl pr)), (o6, .inl (cI, 4, .inl bu))] H := hP
  have hD : va_D A [(o0, .inr (7, [.ref o1, .ref o2, .ref o3, .ref o4, .ref o5, .ref o6, .int (nI n), .int (nI k), .int wd, .int (bb wt)])), (o1, .inl (cI, 8, .inl xs)), (o2, .inl (cI, 8, .inl ys)), (o3, .inl (cI, 8, .inl rf)), (o4, .inl (cI, 8, .inl bo)), (o5, .inl (cI, 4, .inl pr)), (o6, .inl (cI, 4, .inl bu))] := hD
  have hl : lv_has ls 2 [(0, .ref o0), (1, .int (nI h))] := hl
  have w_0 := hts (.fieldLink RX8 18 "UnlikeRoofs$Town" "roofs" "[I") (List.mem_of_getElem? (i := 1) (by rfl))
  have hin_X8 : ∀ w ∈ wsX80, w ∈ wsX8_canBurn := fun _ h => List.mem_cons_of_mem _ (List.mem_append_right _ h)
  have _h0 : True := trivial
  refine lv_aload_n hx hb dX8_canBurn_0 rfl (lv_at hl 0 rfl) ?_
  refine lv_iload_n hx hb dX8_canBurn_1 rfl (lv_at hl 1 rfl) ?_
  refine xcV_i (As := [.int (nI h)]) (rest := []) (wc := [(o0, .inr (7, [.ref o1, .ref o2, .ref o3, .ref o4, .ref o5, .ref o6, .int (nI n), .int (nI k), .int wd, .int (bb wt)])), (o1, .inl (cI, 8, .inl xs)), (o2, .inl (cI, 8, .inl ys)), (o3, .inl (cI, 8, .inl rf)), (o4, .inl (cI, 8, .inl bo)), (o5, .inl (cI, 4, .inl pr)), (o6, .inl (cI, 4, .inl bu))]) (wr := []) (w3 := fun (u : Unit) => [(o0, .inr (7, [.ref o1, .ref o2, .ref o3, .ref o4, .ref o5, .ref o6, .int (nI n), .int (nI k), .int wd, .int (bb wt)])), (o1, .inl (cI, 8, .inl xs)), (o2, .inl (cI, 8, .inl ys)), (o3, .inl (cI, 8, .inl rf)), (o4, .inl (cI, 8, .inl bo)), (o5, .inl (cI, 4, .inl pr)), (o6, .inl (cI, 4, .inl bu))]) ⟨hx, hb, hml, hown, hts⟩ (c_X8_hasHouse_in l D cI cZ cO H.size o0 o1 o2 o3 o4 o5 o6 xs ys rf bo pr bu n k wd wt h (by first | assumption | omega | rfl) (by first | assumption | omega | rfl)) (cwV 1 hts gX8_canBurn_X8_hasHouse rfl rfl rfl (by decide +kernel) ⟨Nat.le_of_ble_eq_true rfl, Nat.le_of_ble_eq_true rfl⟩) xGd0 xGd0 (fun _ _ _ _ => trivial) hG hP hD hK hS hA [0, 1, 2, 3, 4, 5, 6] [] [0, 1, 2, 3, 4, 5, 6] rfl rfl rfl rfl rfl 0 rfl rfl rfl (fun _ => rfl) rfl rfl hl.1 (Nat.le_of_ble_eq_true rfl) dX8_canBurn_2 ⟨Nat.zero_le _, Nat.zero_le _⟩ (fun r u H locs hw hP hD hS => ?_)
  obtain ⟨rfl, hw⟩ := hw
  have hw_2 : True := hw
  have hP : va_P D vwCl [(o0, .inr (7, [.ref o1, .ref o2, .ref o3, .ref o4, .ref o5, .ref o6, .int (nI n), .int (nI k), .int wd, .int (bb wt)])), (o1, .inl (cI, 8, .inl xs)), (o2, .inl (cI, 8, .inl ys)), (o3, .inl (cI, 8, .inl rf)), (o4, .inl (cI, 8, .inl bo)), (o5, .inl (cI, 4, .inl pr)), (o6, .inl (cI, 4, .inl bu))] H := hP
  have hD : va_D A [(o0, .inr (7, [.ref o1, .ref o2, .ref o3, .ref o4, .ref o5, .ref o6, .int (nI n), .int (nI k), .int wd, .int (bb wt)])), (o1, .inl (cI, 8, .inl xs)), (o2, .inl (cI, 8, .inl ys)), (o3, .inl (cI, 8, .inl rf)), (o4, .inl (cI, 8, .inl bo)), (o5, .inl (cI, 4, .inl pr)), (o6, .inl (cI, 4, .inl bu))] := hD
  refine lv_if_eq (tgt := 25) hx hb dX8_canBurn_5 (by decide) (fun c_5 => ?_) (fun c_5 => ?_)
  ·
    exact absurd c_5 (by decide)
  ·
    refine lv_aload_n hx hb dX8_canBurn_8 rfl (lv_at hl 0 rfl) ?_
    refine lv_aload_n hx hb dX8_canBurn_9 rfl (lv_at hl 0 rfl) ?_
    refine va_get (D := D) (ci := 7) (v := .ref o3) (C := RX8) (T := TX8) (N := 10) hx hb hts hin_X8 hown hK hP 0 rfl rfl 2 (by decide) w_0 (fun _ h9 => h9) rfl dX8_canBurn_10 ?_
    refine lv_iload_n hx hb dX8_canBurn_13 rfl (lv_at hl 1 rfl) ?_
    refine x_iald hx hb hK hP 3 0 rfl rfl (j := h) (by omega) (by decide) dX8_canBurn_14 ?_
    refine xcV_i (As := [.int (rf h)]) (rest := []) (wc := [(o0, .inr (7, [.ref o1, .ref o2, .ref o3, .ref o4, .ref o5, .ref o6, .int (nI n), .int (nI k), .int wd, .int (bb wt)])), (o1, .inl (cI, 8, .inl xs)), (o2, .inl (cI, 8, .inl ys)), (o3, .inl (cI, 8, .inl rf)), (o4, .inl (cI, 8, .inl bo)), (o5, .inl (cI, 4, .inl pr)), (o6, .inl (cI, 4, .inl bu))]) (wr := []) (w3 := fun (u : Unit) => [(o0, .inr (7, [.ref o1, .ref o2, .ref o3, .ref o4, .ref o5, .ref o6, .int (nI n), .int (nI k), .int wd, .int (bb wt)])), (o1, .inl (cI, 8, .inl xs)), (o2, .inl (cI, 8, .inl ys)), (o3, .inl (cI, 8, .inl rf)), (o4, .inl (cI, 8, .inl bo)), (o5, .inl (cI, 4, .inl pr)), (o6, .inl (cI, 4, .inl bu))]) ⟨hx, hb, hml, hown, hts⟩ (c_X8_burnOf l D cI cZ cO H.size o0 o1 o2 o3 o4 o5 o6 xs ys rf bo pr bu n k wd wt (rf h) (by first | assumption | omega | rfl)) (cwV 1 hts gX8_canBurn_X8_burnOf rfl rfl rfl (by decide +kernel) ⟨Nat.le_of_ble_eq_true rfl, Nat.le_of_ble_eq_true rfl⟩) xGd0 xGd0 (fun _ _ _ _ => trivial) hG hP hD hK hS hA [0, 1, 2, 3, 4, 5, 6] [] [0, 1, 2, 3, 4, 5, 6] rfl rfl rfl rfl rfl 0 rfl rfl rfl (fun _ => rfl) rfl rfl hl.1 (Nat.le_of_ble_eq_true rfl) dX8_canBurn_15 ⟨Nat.zero_le _, Nat.zero_le _⟩ (fun r u H locs hw hP hD hS => ?_)
    obtain ⟨rfl, hw⟩ := hw
    have hw_15 : True := hw
    have hP : va_P D vwCl [(o0, .inr (7, [.ref o1, .ref o2, .ref o3, .ref o4, .ref o5, .ref o6, .int (nI n), .int (nI k), .int wd, .int (bb wt)])), (o1, .inl (cI, 8, .inl xs)), (o2, .inl (cI, 8, .inl ys)), (o3, .inl (cI, 8, .inl rf)), (o4, .inl (cI, 8, .inl bo)), (o5, .inl (cI, 4, .inl pr)), (o6, .inl (cI, 4, .inl bu))] H := hP
    have hD : va_D A [(o0, .inr (7, [.ref o1, .ref o2, .ref o3, .ref o4, .ref o5, .ref o6, .int (nI n), .int (nI k), .int wd, .int (bb wt)])), (o1, .inl (cI, 8, .inl xs)), (o2, .inl (cI, 8, .inl ys)), (o3, .inl (cI, 8, .inl rf)), (o4, .inl (cI, 8, .inl bo)), (o5, .inl (cI, 4, .inl pr)), (o6, .inl (cI, 4, .inl bu))] := hD
    refine lv_if_le (tgt := 25) hx hb dX8_canBurn_18 (by decide) (fun c_18 => ?_) (fun c_18 => ?_)
    ·
      refine lv_iconst (v := (0 : Int32)) hx hb dX8_canBurn_25 (by decide) ?_
      exact hret _ () _ _ _ _ (rfl) (⟨by first | exact bbT (Int32.not_le.1 c_18) | exact bbF (Int32.not_lt.2 c_18), trivial⟩) hP hD hS dX8_canBurn_26
    ·
      refine lv_iconst (v := (1 : Int32)) hx hb dX8_canBurn_21 (by decide) ?_
      refine lv_goto (tgt := 26) hx hb dX8_canBurn_22 (by decide) ?_
      exact hret _ () _ _ _ _ (rfl) (⟨by first | exact bbT (Int32.not_le.1 c_18) | exact bbF (Int32.not_lt.2 c_18), trivial⟩) hP hD hS dX8_canBurn_26

set_option maxHeartbeats 4000000 in
set_option maxRecDepth 100000 in
theorem c_X8_roofedWith (l : Launch) (D : va_G) (cI cZ cO : ClassId) (sz : Nat) (o0 : Nat) (o1 : Nat) (o2 : Nat) (o3 : Nat) (o4 : Nat) (o5 : Nat) (o6 : Nat) (xs : Nat → Int32) (ys : Nat → Int32) (rf : Nat → Int32) (bo : Nat → Int32) (pr : Nat → Int32) (bu : Nat → Int32) (n : Nat) (k : Nat) (wd : Int32) (wt : Bool) (sv : Int32) (hn : n ≤ 8) : xMi l yX8_roofedWith wsX8_roofedWith (0) (0) D (TY cI cZ cO) xG0 [.ref o0, .int sv] [(o0, .inr (7, [.ref o1, .ref o2, .ref o3, .ref o4, .ref o5, .ref o6, .int (nI n), .int (nI k), .int wd, .int (bb wt)])), (o1, .inl (cI, 8, .inl xs)), (o2, .inl (cI, 8, .inl ys)), (o3, .inl (cI, 8, .inl rf)), (o4, .inl (cI, 8, .inl bo)), (o5, .inl (cI, 4, .inl pr)), (o6, .inl (cI, 4, .inl bu))] sz (fun (rv_ : Int32) (u : Unit) => rv_ = (nI (mkM (fun g => decide (rf g = sv)) n)) ∧ (True)) (fun (u : Unit) => [(o0, .inr (7, [.ref o1, .ref o2, .ref o3, .ref o4, .ref o5, .ref o6, .int (nI n), .int (nI k), .int wd, .int (bb wt)])), (o1, .inl (cI, 8, .inl xs)), (o2, .inl (cI, 8, .inl ys)), (o3, .inl (cI, 8, .inl rf)), (o4, .inl (cI, 8, .inl bo)), (o5, .inl (cI, 4, .inl pr)), (o6, .inl (cI, 4, .inl bu))]) := by
  refine xMi.of (cc := cX8_roofedWith) (maxL := 4) (by decide +kernel) rfl (Nat.le_of_ble_eq_true rfl) ?_
  intro p e s m below meth c A Q H hx hb hml hown hts hA hP hD hK hS hG hret ls hl
  have hown : s.vm.findClass RX8 = some m.cls := hown
  have hP : va_P D vwCl [(o0, .inr (7, [.ref o1, .ref o2, .ref o3, .ref o4, .ref o5, .ref o6, .int (nI n), .int (nI k), .int wd, .int (bb wt)])), (o1, .inl (cI, 8, .inl xs)), (o2, .inl (cI, 8, .inl ys)), (o3, .inl (cI, 8, .inl rf)), (o4, .inl (cI, 8, .inl bo)), (o5, .inl (cI, 4, .inl pr)), (o6, .inl (cI, 4, .inl bu))] H := hP
  have hD : va_D A [(o0, .inr (7, [.ref o1, .ref o2, .ref o3, .ref o4, .ref o5, .ref o6, .int (nI n), .int (nI k), .int wd, .int (bb wt)])), (o1, .inl (cI, 8, .inl xs)), (o2, .inl (cI, 8, .inl ys)), (o3, .inl (cI, 8, .inl rf)), (o4, .inl (cI, 8, .inl bo)), (o5, .inl (cI, 4, .inl pr)), (o6, .inl (cI, 4, .inl bu))] := hD
  have hl : lv_has ls 4 [(0, .ref o0), (1, .int sv)] := hl
  have w_0 := hts (.fieldLink RX8 30 "UnlikeRoofs$Town" "houses" "I") (List.mem_of_getElem? (i := 1) (by rfl))
  have w_1 := hts (.fieldLink RX8 18 "UnlikeRoofs$Town" "roofs" "[I") (List.mem_of_getElem? (i := 2) (by rfl))
  have hin_X8 : ∀ w ∈ wsX80, w ∈ wsX8_roofedWith := fun _ h => List.mem_cons_of_mem _ (List.mem_append_right _ h)
  have _h0 : True := trivial
  refine lv_iconst (v := (0 : Int32)) hx hb dX8_roofedWith_0 (by decide) ?_
  refine lv_istore_n (lv' := [(2, .int (0 : Int32)), (0, .ref o0), (1, .int sv)]) hx hb dX8_roofedWith_1 rfl hl (by decide) rfl (fun ls hl => ?_)
  refine lv_iconst (v := (0 : Int32)) hx hb dX8_roofedWith_2 (by decide) ?_
  refine lv_istore_n (lv' := [(3, .int (0 : Int32)), (2, .int (0 : Int32)), (0, .ref o0), (1, .int sv)]) hx hb dX8_roofedWith_3 rfl hl (by decide) rfl (fun ls hl => ?_)
  have L_4 : ∀ (fuel : Nat) (b : Nat) (i : Nat), (i ≤ n) → (b = mkM (fun g => decide (rf g = sv)) i) → (n - i) < fuel → ∀ (H : Heap) (locs : List Loc), va_P D vwCl [(o0, .inr (7, [.ref o1, .ref o2, .ref o3, .ref o4, .ref o5, .ref o6, .int (nI n), .int (nI k), .int wd, .int (bb wt)])), (o1, .inl (cI, 8, .inl xs)), (o2, .inl (cI, 8, .inl ys)), (o3, .inl (cI, 8, .inl rf)), (o4, .inl (cI, 8, .inl bo)), (o5, .inl (cI, 4, .inl pr)), (o6, .inl (cI, 4, .inl bu))] H → va_D A [(o0, .inr (7, [.ref o1, .ref o2, .ref o3, .ref o4, .ref o5, .ref o6, .int (nI n), .int (nI k), .int wd, .int (bb wt)])), (o1, .inl (cI, 8, .inl xs)), (o2, .inl (cI, 8, .inl ys)), (o3, .inl (cI, 8, .inl rf)), (o4, .inl (cI, 8, .inl bo)), (o5, .inl (cI, 4, .inl pr)), (o6, .inl (cI, 4, .inl bu))] → va_S A s.heap H locs → ∀ ls : Array Slot, lv_has ls 4 [(3, .int (nI i)), (2, .int (nI b)), (0, .ref o0), (1, .int sv)] → W p l e (xRm 0 0) s m ([.ref o0, .int sv] : List Value).toArray below meth c H locs 0 0 Q (F0 m 4 ls []) := by
    intro fuel
    induction fuel with
    | zero =>
      intro b i hi hbm hm
      exact absurd hm (Nat.not_lt_zero _)
    | succ fuel ih_4 =>
      intro b i hi hbm hm_4 H locs hP hD hS ls hl
      refine lv_iload_n hx hb dX8_roofedWith_4 rfl (lv_at hl 0 rfl) ?_
      refine lv_aload_n hx hb dX8_roofedWith_5 rfl (lv_at hl 2 rfl) ?_
      refine va_get (D := D) (ci := 7) (v := .int (nI n)) (C := RX8) (T := TX8) (N := 10) hx hb hts hin_X8 hown hK hP 0 rfl rfl 6 (by decide) w_0 (fun _ h9 => h9) rfl dX8_roofedWith_6 ?_
      refine lv_icmp_ge (tgt := 34) hx hb dX8_roofedWith_9 (by decide) (fun c_9 => ?_) (fun c_9 => ?_)
      ·
        have n_9 : n ≤ i := (nI_leI (show n < 2147483648 by omega) (show i < 2147483648 by omega)).1 c_9
        refine lv_iload_n hx hb dX8_roofedWith_34 rfl (lv_at hl 1 rfl) ?_
        exact hret _ () _ _ _ _ (rfl) (⟨by rw [hbm, show i = n by omega], trivial⟩) hP hD hS dX8_roofedWith_35
      ·
        have n_9 : i < n := Nat.lt_of_not_le (fun q => c_9 ((nI_leI (show n < 2147483648 by omega) (show i < 2147483648 by omega)).2 q))
        refine lv_aload_n hx hb dX8_roofedWith_12 rfl (lv_at hl 2 rfl) ?_
        refine va_get (D := D) (ci := 7) (v := .ref o3) (C := RX8) (T := TX8) (N := 10) hx hb hts hin_X8 hown hK hP 0 rfl rfl 2 (by decide) w_1 (fun _ h9 => h9) rfl dX8_roofedWith_13 ?_
        refine lv_iload_n hx hb dX8_roofedWith_16 rfl (lv_at hl 0 rfl) ?_
        refine x_iald hx hb hK hP 3 0 rfl rfl (j := i) (by omega) (by decide) dX8_roofedWith_17 ?_
        refine lv_iload_n hx hb dX8_roofedWith_18 rfl (lv_at hl 3 rfl) ?_
        refine lv_icmp_ne (tgt := 28) hx hb dX8_roofedWith_19 (by decide) (fun c_19 => ?_) (fun c_19 => ?_)
        ·
          refine lv_iinc (v := nI (i + 1)) (lv' := [(3, .int (nI (i + 1))), (2, .int (nI b)), (0, .ref o0), (1, .int sv)]) hx hb dX8_roofedWith_28 hl (k := 0) rfl (by first | rfl | exact nI_add _ 1 | (simp only [] ; exact nI_add _ 1)) (by decide) rfl (fun ls hl => ?_)
          refine lv_goto (tgt := 4) hx hb dX8_roofedWith_31 (by decide) ?_
          exact ih_4 b (i + 1) (by omega) (by rw [mkM, if_neg (fun q => c_19 (of_decide_eq_true q)), Nat.add_zero, hbm]) (by omega) _ _ hP hD hS _ (lv_sub hl [0, 1, 2, 3] rfl)
        ·
          refine lv_iload_n hx hb dX8_roofedWith_22 rfl (lv_at hl 1 rfl) ?_
          refine lv_iconst (v := (1 : Int32)) hx hb dX8_roofedWith_23 (by decide) ?_
          refine lv_iload_n hx hb dX8_roofedWith_24 rfl (lv_at hl 0 rfl) ?_
          refine lv_ishl hx hb dX8_roofedWith_25 ?_
          refine lv_ior hx hb dX8_roofedWith_26 ?_
          refine lv_topr (x' := nI (b + 2 ^ i)) (or1 (by rw [hbm]; exact mkM_lt _ i) (by omega)) ?_
          refine lv_istore_n (lv' := [(2, .int (nI (b + 2 ^ i))), (3, .int (nI i)), (0, .ref o0), (1, .int sv)]) hx hb dX8_roofedWith_27 rfl hl (by decide) rfl (fun ls hl => ?_)
          refine lv_iinc (v := nI (i + 1)) (lv' := [(3, .int (nI (i + 1))), (2, .int (nI (b + 2 ^ i))), (0, .ref o0), (1, .int sv)]) hx hb dX8_roofedWith_28 hl (k := 1) rfl (by first | rfl | exact nI_add _ 1 | (simp only [] ; exact nI_add _ 1)) (by decide) rfl (fun ls hl => ?_)
          refine lv_goto (tgt := 4) hx hb dX8_roofedWith_31 (by decide) ?_
          exact ih_4 (b + 2 ^ i) (i + 1) (by omega) (by rw [mkM, if_pos (decide_eq_true c_19), hbm]) (by omega) _ _ hP hD hS _ (lv_sub hl [0, 1, 2, 3] rfl)
  exact L_4 (Nat.succ (n - 0)) 0 0 (Nat.zero_le _) (rfl) (Nat.lt_succ_self _) _ _ hP hD hS _ (lv_sub hl [0, 1, 2, 3] rfl)

set_option maxHeartbeats 4000000 in
set_option maxRecDepth 100000 in
theorem c_X8_bitAt (l : Launch) (D : va_G) (cI cZ cO : ClassId) (sz : Nat) (o0 : Nat) (o1 : Nat) (o2 : Nat) (o3 : Nat) (o4 : Nat) (o5 : Nat) (o6 : Nat) (xs : Nat → Int32) (ys : Nat → Int32) (rf : Nat → Int32) (bo : Nat → Int32) (pr : Nat → Int32) (bu : Nat → Int32) (n : Nat) (k : Nat) (wd : Int32) (wt : Bool) (x : Int32) (y : Int32) (hn : n ≤ 8) : xMi l yX8_bitAt wsX8_bitAt (0) (0) D (TY cI cZ cO) xG0 [.ref o0, .int x, .int y] [(o0, .inr (7, [.ref o1, .ref o2, .ref o3, .ref o4, .ref o5, .ref o6, .int (nI n), .int (nI k), .int wd, .int (bb wt)])), (o1, .inl (cI, 8, .inl xs)), (o2, .inl (cI, 8, .inl ys)), (o3, .inl (cI, 8, .inl rf)), (o4, .inl (cI, 8, .inl bo)), (o5, .inl (cI, 4, .inl pr)), (o6, .inl (cI, 4, .inl bu))] sz (fun (rv_ : Int32) (u : Nat) => rv_ = (nI u) ∧ (fstB xs ys x y n u)) (fun (u : Nat) => [(o0, .inr (7, [.ref o1, .ref o2, .ref o3, .ref o4, .ref o5, .ref o6, .int (nI n), .int (nI k), .int wd, .int (bb wt)])), (o1, .inl (cI, 8, .inl xs)), (o2, .inl (cI, 8, .inl ys)), (o3, .inl (cI, 8, .inl rf)), (o4, .inl (cI, 8, .inl bo)), (o5, .inl (cI, 4, .inl pr)), (o6, .inl (cI, 4, .inl bu))]) := by
  refine xMi.of (cc := cX8_bitAt) (maxL := 4) (by decide +kernel) rfl (Nat.le_of_ble_eq_true rfl) ?_
  intro p e s m below meth c A Q H hx hb hml hown hts hA hP hD hK hS hG hret ls hl
  have hown : s.vm.findClass RX8 = some m.cls := hown
  have hP : va_P D vwCl [(o0, .inr (7, [.ref o1, .ref o2, .ref o3, .ref o4, .ref o5, .ref o6, .int (nI n), .int (nI k), .int wd, .int (bb wt)])), (o1, .inl (cI, 8, .inl xs)), (o2, .inl (cI, 8, .inl ys)), (o3, .inl (cI, 8, .inl rf)), (o4, .inl (cI, 8, .inl bo)), (o5, .inl (cI, 4, .inl pr)), (o6, .inl (cI, 4, .inl bu))] H := hP
  have hD : va_D A [(o0, .inr (7, [.ref o1, .ref o2, .ref o3, .ref o4, .ref o5, .ref o6, .int (nI n), .int (nI k), .int wd, .int (bb wt)])), (o1, .inl (cI, 8, .inl xs)), (o2, .inl (cI, 8, .inl ys)), (o3, .inl (cI, 8, .inl rf)), (o4, .inl (cI, 8, .inl bo)), (o5, .inl (cI, 4, .inl pr)), (o6, .inl (cI, 4, .inl bu))] := hD
  have hl : lv_has ls 4 [(0, .ref o0), (1, .int x), (2, .int y)] := hl
  have w_0 := hts (.fieldLink RX8 30 "UnlikeRoofs$Town" "houses" "I") (List.mem_of_getElem? (i := 1) (by rfl))
  have w_1 := hts (.fieldLink RX8 9 "UnlikeRoofs$Town" "xs" "[I") (List.mem_of_getElem? (i := 2) (by rfl))
  have w_2 := hts (.fieldLink RX8 15 "UnlikeRoofs$Town" "ys" "[I") (List.mem_of_getElem? (i := 3) (by rfl))
  have hin_X8 : ∀ w ∈ wsX80, w ∈ wsX8_bitAt := fun _ h => List.mem_cons_of_mem _ (List.mem_append_right _ h)
  have _h0 : True := trivial
  refine lv_iconst (v := (0 : Int32)) hx hb dX8_bitAt_0 (by decide) ?_
  refine lv_istore_n (lv' := [(3, .int (0 : Int32)), (0, .ref o0), (1, .int x), (2, .int y)]) hx hb dX8_bitAt_1 rfl hl (by decide) rfl (fun ls hl => ?_)
  have L_2 : ∀ (fuel : Nat) (i : Nat), (i ≤ n) → (∀ g, g < i → ¬ (xs g = x ∧ ys g = y)) → (n - i) < fuel → ∀ (H : Heap) (locs : List Loc), va_P D vwCl [(o0, .inr (7, [.ref o1, .ref o2, .ref o3, .ref o4, .ref o5, .ref o6, .int (nI n), .int (nI k), .int wd, .int (bb wt)])), (o1, .inl (cI, 8, .inl xs)), (o2, .inl (cI, 8, .inl ys)), (o3, .inl (cI, 8, .inl rf)), (o4, .inl (cI, 8, .inl bo)), (o5, .inl (cI, 4, .inl pr)), (o6, .inl (cI, 4, .inl bu))] H → va_D A [(o0, .inr (7, [.ref o1, .ref o2, .ref o3, .ref o4, .ref o5, .ref o6, .int (nI n), .int (nI k), .int wd, .int (bb wt)])), (o1, .inl (cI, 8, .inl xs)), (o2, .inl (cI, 8, .inl ys)), (o3, .inl (cI, 8, .inl rf)), (o4, .inl (cI, 8, .inl bo)), (o5, .inl (cI, 4, .inl pr)), (o6, .inl (cI, 4, .inl bu))] → va_S A s.heap H locs → ∀ ls : Array Slot, lv_has ls 4 [(3, .int (nI i)), (0, .ref o0), (1, .int x), (2, .int y)] → W p l e (xRm 0 0) s m ([.ref o0, .int x, .int y] : List Value).toArray below meth c H locs 0 0 Q (F0 m 2 ls []) := by
    intro fuel
    induction fuel with
    | zero =>
      intro i hi hno hm
      exact absurd hm (Nat.not_lt_zero _)
    | succ fuel ih_2 =>
      intro i hi hno hm_2 H locs hP hD hS ls hl
      refine lv_iload_n hx hb dX8_bitAt_2 rfl (lv_at hl 0 rfl) ?_
      refine lv_aload_n hx hb dX8_bitAt_3 rfl (lv_at hl 1 rfl) ?_
      refine va_get (D := D) (ci := 7) (v := .int (nI n)) (C := RX8) (T := TX8) (N := 10) hx hb hts hin_X8 hown hK hP 0 rfl rfl 6 (by decide) w_0 (fun _ h9 => h9) rfl dX8_bitAt_4 ?_
      refine lv_icmp_ge (tgt := 40) hx hb dX8_bitAt_7 (by decide) (fun c_7 => ?_) (fun c_7 => ?_)
      ·
        have n_7 : n ≤ i := (nI_leI (show n < 2147483648 by omega) (show i < 2147483648 by omega)).1 c_7
        refine lv_iconst (v := (0 : Int32)) hx hb dX8_bitAt_40 (by decide) ?_
        exact hret _ (0) _ _ _ _ (rfl) (⟨rfl, Or.inl ⟨rfl, fun g q => hno g (by omega)⟩⟩) hP hD hS dX8_bitAt_41
      ·
        have n_7 : i < n := Nat.lt_of_not_le (fun q => c_7 ((nI_leI (show n < 2147483648 by omega) (show i < 2147483648 by omega)).2 q))
        refine lv_aload_n hx hb dX8_bitAt_10 rfl (lv_at hl 1 rfl) ?_
        refine va_get (D := D) (ci := 7) (v := .ref o1) (C := RX8) (T := TX8) (N := 10) hx hb hts hin_X8 hown hK hP 0 rfl rfl 0 (by decide) w_1 (fun _ h9 => h9) rfl dX8_bitAt_11 ?_
        refine lv_iload_n hx hb dX8_bitAt_14 rfl (lv_at hl 0 rfl) ?_
        refine x_iald hx hb hK hP 1 0 rfl rfl (j := i) (by omega) (by decide) dX8_bitAt_15 ?_
        refine lv_iload_n hx hb dX8_bitAt_16 rfl (lv_at hl 2 rfl) ?_
        refine lv_icmp_ne (tgt := 34) hx hb dX8_bitAt_17 (by decide) (fun c_17 => ?_) (fun c_17 => ?_)
        ·
          refine lv_iinc (v := nI (i + 1)) (lv' := [(3, .int (nI (i + 1))), (0, .ref o0), (1, .int x), (2, .int y)]) hx hb dX8_bitAt_34 hl (k := 0) rfl (by first | rfl | exact nI_add _ 1 | (simp only [] ; exact nI_add _ 1)) (by decide) rfl (fun ls hl => ?_)
          refine lv_goto (tgt := 2) hx hb dX8_bitAt_37 (by decide) ?_
          exact ih_2 (i + 1) (by omega) (lt_s hno (fun q => by first | exact c_17 q.1 | exact c_27 q.2)) (by omega) _ _ hP hD hS _ (lv_sub hl [0, 1, 2, 3] rfl)
        ·
          refine lv_aload_n hx hb dX8_bitAt_20 rfl (lv_at hl 1 rfl) ?_
          refine va_get (D := D) (ci := 7) (v := .ref o2) (C := RX8) (T := TX8) (N := 10) hx hb hts hin_X8 hown hK hP 0 rfl rfl 1 (by decide) w_2 (fun _ h9 => h9) rfl dX8_bitAt_21 ?_
          refine lv_iload_n hx hb dX8_bitAt_24 rfl (lv_at hl 0 rfl) ?_
          refine x_iald hx hb hK hP 2 0 rfl rfl (j := i) (by omega) (by decide) dX8_bitAt_25 ?_
          refine lv_iload_n hx hb dX8_bitAt_26 rfl (lv_at hl 3 rfl) ?_
          refine lv_icmp_ne (tgt := 34) hx hb dX8_bitAt_27 (by decide) (fun c_27 => ?_) (fun c_27 => ?_)
          ·
            refine lv_iinc (v := nI (i + 1)) (lv' := [(3, .int (nI (i + 1))), (0, .ref o0), (1, .int x), (2, .int y)]) hx hb dX8_bitAt_34 hl (k := 0) rfl (by first | rfl | exact nI_add _ 1 | (simp only [] ; exact nI_add _ 1)) (by decide) rfl (fun ls hl => ?_)
            refine lv_goto (tgt := 2) hx hb dX8_bitAt_37 (by decide) ?_
            exact ih_2 (i + 1) (by omega) (lt_s hno (fun q => by first | exact c_17 q.1 | exact c_27 q.2)) (by omega) _ _ hP hD hS _ (lv_sub hl [0, 1, 2, 3] rfl)
          ·
            refine lv_iconst (v := (1 : Int32)) hx hb dX8_bitAt_30 (by decide) ?_
            refine lv_iload_n hx hb dX8_bitAt_31 rfl (lv_at hl 0 rfl) ?_
            refine lv_ishl hx hb dX8_bitAt_32 ?_
            refine lv_topr (x' := nI (2 ^ i)) (sh1 (by omega)) ?_
            exact hret _ (2 ^ i) _ _ _ _ (rfl) (⟨rfl, Or.inr ⟨i, n_7, rfl, ⟨c_17, c_27⟩, hno⟩⟩) hP hD hS dX8_bitAt_33
  exact L_2 (Nat.succ (n - 0)) 0 (Nat.zero_le _) (fun _ q => absurd q (Nat.not_lt_zero _)) (Nat.lt_succ_self _) _ _ hP hD hS _ (lv_sub hl [0, 1, 2, 3] rfl)

set_option maxHeartbeats 4000000 in
set_option maxRecDepth 100000 in
theorem c_X8_touched (l : Launch) (D : va_G) (cI cZ cO : ClassId) (sz : Nat) (o0 : Nat) (o1 : Nat) (o2 : Nat) (o3 : Nat) (o4 : Nat) (o5 : Nat) (o6 : Nat) (xs : Nat → Int32) (ys : Nat → Int32) (rf : Nat → Int32) (bo : Nat → Int32) (pr : Nat → Int32) (bu : Nat → Int32) (n : Nat) (k : Nat) (wd : Int32) (wt : Bool) (h : Nat) (hn : n ≤ 8) (hh : h < n) : xMi l yX8_touched wsX8_touched (2) (47) D (TY cI cZ cO) xG0 [.ref o0, .int (nI h)] [(o0, .inr (7, [.ref o1, .ref o2, .ref o3, .ref o4, .ref o5, .ref o6, .int (nI n), .int (nI k), .int wd, .int (bb wt)])), (o1, .inl (cI, 8, .inl xs)), (o2, .inl (cI, 8, .inl ys)), (o3, .inl (cI, 8, .inl rf)), (o4, .inl (cI, 8, .inl bo)), (o5, .inl (cI, 4, .inl pr)), (o6, .inl (cI, 4, .inl bu))] sz (fun (rv_ : Int32) (u : Unit) => rv_ = (nI (mkM (fun g => arb xs ys h 1 g) n)) ∧ (True)) (fun (u : Unit) => [(o0, .inr (7, [.ref o1, .ref o2, .ref o3, .ref o4, .ref o5, .ref o6, .int (nI n), .int (nI k), .int wd, .int (bb wt)])), (o1, .inl (cI, 8, .inl xs)), (o2, .inl (cI, 8, .inl ys)), (o3, .inl (cI, 8, .inl rf)), (o4, .inl (cI, 8, .inl bo)), (o5, .inl (cI, 4, .inl pr)), (o6, .inl (cI, 4, .inl bu))]) := by
  refine xMi.of (cc := cX8_touched) (maxL := 2) (by decide +kernel) rfl (Nat.le_of_ble_eq_true rfl) ?_
  intro p e s m below meth c A Q H hx hb hml hown hts hA hP hD hK hS hG hret ls hl
  have hown : s.vm.findClass RX8 = some m.cls := hown
  have hP : va_P D vwCl [(o0, .inr (7, [.ref o1, .ref o2, .ref o3, .ref o4, .ref o5, .ref o6, .int (nI n), .int (nI k), .int wd, .int (bb wt)])), (o1, .inl (cI, 8, .inl xs)), (o2, .inl (cI, 8, .inl ys)), (o3, .inl (cI, 8, .inl rf)), (o4, .inl (cI, 8, .inl bo)), (o5, .inl (cI, 4, .inl pr)), (o6, .inl (cI, 4, .inl bu))] H := hP
  have hD : va_D A [(o0, .inr (7, [.ref o1, .ref o2, .ref o3, .ref o4, .ref o5, .ref o6, .int (nI n), .int (nI k), .int wd, .int (bb wt)])), (o1, .inl (cI, 8, .inl xs)), (o2, .inl (cI, 8, .inl ys)), (o3, .inl (cI, 8, .inl rf)), (o4, .inl (cI, 8, .inl bo)), (o5, .inl (cI, 4, .inl pr)), (o6, .inl (cI, 4, .inl bu))] := hD
  have hl : lv_has ls 2 [(0, .ref o0), (1, .int (nI h))] := hl
  have _h0 : True := trivial
  refine lv_aload_n hx hb dX8_touched_0 rfl (lv_at hl 0 rfl) ?_
  refine lv_iload_n hx hb dX8_touched_1 rfl (lv_at hl 1 rfl) ?_
  refine lv_iconst (v := (1 : Int32)) hx hb dX8_touched_2 (by decide) ?_
  refine xcV_i (As := [.int (nI h), .int (1 : Int32)]) (rest := []) (wc := [(o0, .inr (7, [.ref o1, .ref o2, .ref o3, .ref o4, .ref o5, .ref o6, .int (nI n), .int (nI k), .int wd, .int (bb wt)])), (o1, .inl (cI, 8, .inl xs)), (o2, .inl (cI, 8, .inl ys)), (o3, .inl (cI, 8, .inl rf)), (o4, .inl (cI, 8, .inl bo)), (o5, .inl (cI, 4, .inl pr)), (o6, .inl (cI, 4, .inl bu))]) (wr := []) (w3 := fun (u : Unit) => [(o0, .inr (7, [.ref o1, .ref o2, .ref o3, .ref o4, .ref o5, .ref o6, .int (nI n), .int (nI k), .int wd, .int (bb wt)])), (o1, .inl (cI, 8, .inl xs)), (o2, .inl (cI, 8, .inl ys)), (o3, .inl (cI, 8, .inl rf)), (o4, .inl (cI, 8, .inl bo)), (o5, .inl (cI, 4, .inl pr)), (o6, .inl (cI, 4, .inl bu))]) ⟨hx, hb, hml, hown, hts⟩ (c_X8_around l D cI cZ cO H.size o0 o1 o2 o3 o4 o5 o6 xs ys rf bo pr bu n k wd wt h (1 : Int32) (by first | assumption | omega | rfl) (by first | assumption | omega | rfl)) (cwV 2 hts gX8_touched_X8_around rfl rfl rfl (by decide +kernel) ⟨Nat.le_of_ble_eq_true rfl, Nat.le_of_ble_eq_true rfl⟩) xGd0 xGd0 (fun _ _ _ _ => trivial) hG hP hD hK hS hA [0, 1, 2, 3, 4, 5, 6] [] [0, 1, 2, 3, 4, 5, 6] rfl rfl rfl rfl rfl 0 rfl rfl rfl (fun _ => rfl) rfl rfl hl.1 (Nat.le_of_ble_eq_true rfl) dX8_touched_3 ⟨Nat.zero_le _, Nat.zero_le _⟩ (fun r u H locs hw hP hD hS => ?_)
  obtain ⟨rfl, hw⟩ := hw
  have hw_3 : True := hw
  have hP : va_P D vwCl [(o0, .inr (7, [.ref o1, .ref o2, .ref o3, .ref o4, .ref o5, .ref o6, .int (nI n), .int (nI k), .int wd, .int (bb wt)])), (o1, .inl (cI, 8, .inl xs)), (o2, .inl (cI, 8, .inl ys)), (o3, .inl (cI, 8, .inl rf)), (o4, .inl (cI, 8, .inl bo)), (o5, .inl (cI, 4, .inl pr)), (o6, .inl (cI, 4, .inl bu))] H := hP
  have hD : va_D A [(o0, .inr (7, [.ref o1, .ref o2, .ref o3, .ref o4, .ref o5, .ref o6, .int (nI n), .int (nI k), .int wd, .int (bb wt)])), (o1, .inl (cI, 8, .inl xs)), (o2, .inl (cI, 8, .inl ys)), (o3, .inl (cI, 8, .inl rf)), (o4, .inl (cI, 8, .inl bo)), (o5, .inl (cI, 4, .inl pr)), (o6, .inl (cI, 4, .inl bu))] := hD
  exact hret _ () _ _ _ _ (rfl) (⟨rfl, trivial⟩) hP hD hS dX8_touched_6

set_option maxHeartbeats 4000000 in
set_option maxRecDepth 100000 in
theorem c_X8_near (l : Launch) (D : va_G) (cI cZ cO : ClassId) (sz : Nat) (o0 : Nat) (o1 : Nat) (o2 : Nat) (o3 : Nat) (o4 : Nat) (o5 : Nat) (o6 : Nat) (xs : Nat → Int32) (ys : Nat → Int32) (rf : Nat → Int32) (bo : Nat → Int32) (pr : Nat → Int32) (bu : Nat → Int32) (n : Nat) (k : Nat) (wd : Int32) (wt : Bool) (h : Nat) (sp : Int32) (hn : n ≤ 8) (hh : h < n) : xMi l yX8_near wsX8_near (2) (47) D (TY cI cZ cO) xG0 [.ref o0, .int (nI h), .int sp] [(o0, .inr (7, [.ref o1, .ref o2, .ref o3, .ref o4, .ref o5, .ref o6, .int (nI n), .int (nI k), .int wd, .int (bb wt)])), (o1, .inl (cI, 8, .inl xs)), (o2, .inl (cI, 8, .inl ys)), (o3, .inl (cI, 8, .inl rf)), (o4, .inl (cI, 8, .inl bo)), (o5, .inl (cI, 4, .inl pr)), (o6, .inl (cI, 4, .inl bu))] sz (fun (rv_ : Int32) (u : Unit) => rv_ = (nI (mkM (fun g => nearb xs ys h sp g) n)) ∧ (True)) (fun (u : Unit) => [(o0, .inr (7, [.ref o1, .ref o2, .ref o3, .ref o4, .ref o5, .ref o6, .int (nI n), .int (nI k), .int wd, .int (bb wt)])), (o1, .inl (cI, 8, .inl xs)), (o2, .inl (cI, 8, .inl ys)), (o3, .inl (cI, 8, .inl rf)), (o4, .inl (cI, 8, .inl bo)), (o5, .inl (cI, 4, .inl pr)), (o6, .inl (cI, 4, .inl bu))]) := by
  refine xMi.of (cc := cX8_near) (maxL := 3) (by decide +kernel) rfl (Nat.le_of_ble_eq_true rfl) ?_
  intro p e s m below meth c A Q H hx hb hml hown hts hA hP hD hK hS hG hret ls hl
  have hown : s.vm.findClass RX8 = some m.cls := hown
  have hP : va_P D vwCl [(o0, .inr (7, [.ref o1, .ref o2, .ref o3, .ref o4, .ref o5, .ref o6, .int (nI n), .int (nI k), .int wd, .int (bb wt)])), (o1, .inl (cI, 8, .inl xs)), (o2, .inl (cI, 8, .inl ys)), (o3, .inl (cI, 8, .inl rf)), (o4, .inl (cI, 8, .inl bo)), (o5, .inl (cI, 4, .inl pr)), (o6, .inl (cI, 4, .inl bu))] H := hP
  have hD : va_D A [(o0, .inr (7, [.ref o1, .ref o2, .ref o3, .ref o4, .ref o5, .ref o6, .int (nI n), .int (nI k), .int wd, .int (bb wt)])), (o1, .inl (cI, 8, .inl xs)), (o2, .inl (cI, 8, .inl ys)), (o3, .inl (cI, 8, .inl rf)), (o4, .inl (cI, 8, .inl bo)), (o5, .inl (cI, 4, .inl pr)), (o6, .inl (cI, 4, .inl bu))] := hD
  have hl : lv_has ls 3 [(0, .ref o0), (1, .int (nI h)), (2, .int sp)] := hl
  have _h0 : True := trivial
  refine lv_iload_n hx hb dX8_near_0 rfl (lv_at hl 2 rfl) ?_
  refine lv_iconst (v := (1 : Int32)) hx hb dX8_near_1 (by decide) ?_
  refine lv_icmp_ne (tgt := 21) hx hb dX8_near_2 (by decide) (fun c_2 => ?_) (fun c_2 => ?_)
  ·
    refine lv_aload_n hx hb dX8_near_21 rfl (lv_at hl 0 rfl) ?_
    refine lv_iload_n hx hb dX8_near_22 rfl (lv_at hl 1 rfl) ?_
    refine lv_iconst (v := (1 : Int32)) hx hb dX8_near_23 (by decide) ?_
    refine xcV_i (As := [.int (nI h), .int (1 : Int32)]) (rest := []) (wc := [(o0, .inr (7, [.ref o1, .ref o2, .ref o3, .ref o4, .ref o5, .ref o6, .int (nI n), .int (nI k), .int wd, .int (bb wt)])), (o1, .inl (cI, 8, .inl xs)), (o2, .inl (cI, 8, .inl ys)), (o3, .inl (cI, 8, .inl rf)), (o4, .inl (cI, 8, .inl bo)), (o5, .inl (cI, 4, .inl pr)), (o6, .inl (cI, 4, .inl bu))]) (wr := []) (w3 := fun (u : Unit) => [(o0, .inr (7, [.ref o1, .ref o2, .ref o3, .ref o4, .ref o5, .ref o6, .int (nI n), .int (nI k), .int wd, .int (bb wt)])), (o1, .inl (cI, 8, .inl xs)), (o2, .inl (cI, 8, .inl ys)), (o3, .inl (cI, 8, .inl rf)), (o4, .inl (cI, 8, .inl bo)), (o5, .inl (cI, 4, .inl pr)), (o6, .inl (cI, 4, .inl bu))]) ⟨hx, hb, hml, hown, hts⟩ (c_X8_around l D cI cZ cO H.size o0 o1 o2 o3 o4 o5 o6 xs ys rf bo pr bu n k wd wt h (1 : Int32) (by first | assumption | omega | rfl) (by first | assumption | omega | rfl)) (cwV 2 hts gX8_near_X8_around rfl rfl rfl (by decide +kernel) ⟨Nat.le_of_ble_eq_true rfl, Nat.le_of_ble_eq_true rfl⟩) xGd0 xGd0 (fun _ _ _ _ => trivial) hG hP hD hK hS hA [0, 1, 2, 3, 4, 5, 6] [] [0, 1, 2, 3, 4, 5, 6] rfl rfl rfl rfl rfl 0 rfl rfl rfl (fun _ => rfl) rfl rfl hl.1 (Nat.le_of_ble_eq_true rfl) dX8_near_24 ⟨Nat.zero_le _, Nat.zero_le _⟩ (fun r u H locs hw hP hD hS => ?_)
    obtain ⟨rfl, hw⟩ := hw
    have hw_24 : True := hw
    have hP : va_P D vwCl [(o0, .inr (7, [.ref o1, .ref o2, .ref o3, .ref o4, .ref o5, .ref o6, .int (nI n), .int (nI k), .int wd, .int (bb wt)])), (o1, .inl (cI, 8, .inl xs)), (o2, .inl (cI, 8, .inl ys)), (o3, .inl (cI, 8, .inl rf)), (o4, .inl (cI, 8, .inl bo)), (o5, .inl (cI, 4, .inl pr)), (o6, .inl (cI, 4, .inl bu))] H := hP
    have hD : va_D A [(o0, .inr (7, [.ref o1, .ref o2, .ref o3, .ref o4, .ref o5, .ref o6, .int (nI n), .int (nI k), .int wd, .int (bb wt)])), (o1, .inl (cI, 8, .inl xs)), (o2, .inl (cI, 8, .inl ys)), (o3, .inl (cI, 8, .inl rf)), (o4, .inl (cI, 8, .inl bo)), (o5, .inl (cI, 4, .inl pr)), (o6, .inl (cI, 4, .inl bu))] := hD
    exact hret _ () _ _ _ _ (rfl) (⟨by first | rfl | exact congrArg nI (mkM_congr (fun g _ => (nearb_f c_2).symm)), trivial⟩) hP hD hS dX8_near_27
  ·
    refine lv_aload_n hx hb dX8_near_5 rfl (lv_at hl 0 rfl) ?_
    refine lv_iload_n hx hb dX8_near_6 rfl (lv_at hl 1 rfl) ?_
    refine lv_iconst (v := (1 : Int32)) hx hb dX8_near_7 (by decide) ?_
    refine xcV_i (As := [.int (nI h), .int (1 : Int32)]) (rest := []) (wc := [(o0, .inr (7, [.ref o1, .ref o2, .ref o3, .ref o4, .ref o5, .ref o6, .int (nI n), .int (nI k), .int wd, .int (bb wt)])), (o1, .inl (cI, 8, .inl xs)), (o2, .inl (cI, 8, .inl ys)), (o3, .inl (cI, 8, .inl rf)), (o4, .inl (cI, 8, .inl bo)), (o5, .inl (cI, 4, .inl pr)), (o6, .inl (cI, 4, .inl bu))]) (wr := []) (w3 := fun (u : Unit) => [(o0, .inr (7, [.ref o1, .ref o2, .ref o3, .ref o4, .ref o5, .ref o6, .int (nI n), .int (nI k), .int wd, .int (bb wt)])), (o1, .inl (cI, 8, .inl xs)), (o2, .inl (cI, 8, .inl ys)), (o3, .inl (cI, 8, .inl rf)), (o4, .inl (cI, 8, .inl bo)), (o5, .inl (cI, 4, .inl pr)), (o6, .inl (cI, 4, .inl bu))]) ⟨hx, hb, hml, hown, hts⟩ (c_X8_around l D cI cZ cO H.size o0 o1 o2 o3 o4 o5 o6 xs ys rf bo pr bu n k wd wt h (1 : Int32) (by first | assumption | omega | rfl) (by first | assumption | omega | rfl)) (cwV 2 hts gX8_near_X8_around rfl rfl rfl (by decide +kernel) ⟨Nat.le_of_ble_eq_true rfl, Nat.le_of_ble_eq_true rfl⟩) xGd0 xGd0 (fun _ _ _ _ => trivial) hG hP hD hK hS hA [0, 1, 2, 3, 4, 5, 6] [] [0, 1, 2, 3, 4, 5, 6] rfl rfl rfl rfl rfl 0 rfl rfl rfl (fun _ => rfl) rfl rfl hl.1 (Nat.le_of_ble_eq_true rfl) dX8_near_8 ⟨Nat.zero_le _, Nat.zero_le _⟩ (fun r u H locs hw hP hD hS => ?_)
    obtain ⟨rfl, hw⟩ := hw
    have hw_8 : True := hw
    have hP : va_P D vwCl [(o0, .inr (7, [.ref o1, .ref o2, .ref o3, .ref o4, .ref o5, .ref o6, .int (nI n), .int (nI k), .int wd, .int (bb wt)])), (o1, .inl (cI, 8, .inl xs)), (o2, .inl (cI, 8, .inl ys)), (o3, .inl (cI, 8, .inl rf)), (o4, .inl (cI, 8, .inl bo)), (o5, .inl (cI, 4, .inl pr)), (o6, .inl (cI, 4, .inl bu))] H := hP
    have hD : va_D A [(o0, .inr (7, [.ref o1, .ref o2, .ref o3, .ref o4, .ref o5, .ref o6, .int (nI n), .int (nI k), .int wd, .int (bb wt)])), (o1, .inl (cI, 8, .inl xs)), (o2, .inl (cI, 8, .inl ys)), (o3, .inl (cI, 8, .inl rf)), (o4, .inl (cI, 8, .inl bo)), (o5, .inl (cI, 4, .inl pr)), (o6, .inl (cI, 4, .inl bu))] := hD
    refine lv_aload_n hx hb dX8_near_11 rfl (lv_at hl 0 rfl) ?_
    refine lv_iload_n hx hb dX8_near_12 rfl (lv_at hl 1 rfl) ?_
    refine lv_iconst (v := (2 : Int32)) hx hb dX8_near_13 (by decide) ?_
    refine xcV_i (As := [.int (nI h), .int (2 : Int32)]) (rest := [.int (nI (mkM (fun g => arb xs ys h (1 : Int32) g) n))]) (wc := [(o0, .inr (7, [.ref o1, .ref o2, .ref o3, .ref o4, .ref o5, .ref o6, .int (nI n), .int (nI k), .int wd, .int (bb wt)])), (o1, .inl (cI, 8, .inl xs)), (o2, .inl (cI, 8, .inl ys)), (o3, .inl (cI, 8, .inl rf)), (o4, .inl (cI, 8, .inl bo)), (o5, .inl (cI, 4, .inl pr)), (o6, .inl (cI, 4, .inl bu))]) (wr := []) (w3 := fun (u : Unit) => [(o0, .inr (7, [.ref o1, .ref o2, .ref o3, .ref o4, .ref o5, .ref o6, .int (nI n), .int (nI k), .int wd, .int (bb wt)])), (o1, .inl (cI, 8, .inl xs)), (o2, .inl (cI, 8, .inl ys)), (o3, .inl (cI, 8, .inl rf)), (o4, .inl (cI, 8, .inl bo)), (o5, .inl (cI, 4, .inl pr)), (o6, .inl (cI, 4, .inl bu))]) ⟨hx, hb, hml, hown, hts⟩ (c_X8_around l D cI cZ cO H.size o0 o1 o2 o3 o4 o5 o6 xs ys rf bo pr bu n k wd wt h (2 : Int32) (by first | assumption | omega | rfl) (by first | assumption | omega | rfl)) (cwV 2 hts gX8_near_X8_around rfl rfl rfl (by decide +kernel) ⟨Nat.le_of_ble_eq_true rfl, Nat.le_of_ble_eq_true rfl⟩) xGd0 xGd0 (fun _ _ _ _ => trivial) hG hP hD hK hS hA [0, 1, 2, 3, 4, 5, 6] [] [0, 1, 2, 3, 4, 5, 6] rfl rfl rfl rfl rfl 0 rfl rfl rfl (fun _ => rfl) rfl rfl hl.1 (Nat.le_of_ble_eq_true rfl) dX8_near_14 ⟨Nat.zero_le _, Nat.zero_le _⟩ (fun r u H locs hw hP hD hS => ?_)
    obtain ⟨rfl, hw⟩ := hw
    have hw_14 : True := hw
    have hP : va_P D vwCl [(o0, .inr (7, [.ref o1, .ref o2, .ref o3, .ref o4, .ref o5, .ref o6, .int (nI n), .int (nI k), .int wd, .int (bb wt)])), (o1, .inl (cI, 8, .inl xs)), (o2, .inl (cI, 8, .inl ys)), (o3, .inl (cI, 8, .inl rf)), (o4, .inl (cI, 8, .inl bo)), (o5, .inl (cI, 4, .inl pr)), (o6, .inl (cI, 4, .inl bu))] H := hP
    have hD : va_D A [(o0, .inr (7, [.ref o1, .ref o2, .ref o3, .ref o4, .ref o5, .ref o6, .int (nI n), .int (nI k), .int wd, .int (bb wt)])), (o1, .inl (cI, 8, .inl xs)), (o2, .inl (cI, 8, .inl ys)), (o3, .inl (cI, 8, .inl rf)), (o4, .inl (cI, 8, .inl bo)), (o5, .inl (cI, 4, .inl pr)), (o6, .inl (cI, 4, .inl bu))] := hD
    refine lv_ior hx hb dX8_near_17 ?_
    refine lv_topr (x' := nI (mkM (fun g => nearb xs ys h sp g) n)) (near_or hn c_2) ?_
    refine lv_goto (tgt := 27) hx hb dX8_near_18 (by decide) ?_
    exact hret _ () _ _ _ _ (rfl) (⟨by first | rfl | exact congrArg nI (mkM_congr (fun g _ => (nearb_f c_2).symm)), trivial⟩) hP hD hS dX8_near_27

set_option maxHeartbeats 4000000 in
set_option maxRecDepth 100000 in
theorem c_J6_bitCount_0f7a4 (l : Launch) (D : va_G) (cI cZ cO : ClassId) (sz : Nat) (mm : Nat) (hm : mm < 256) : xMi l yJ6_bitCount_0f7a4 wsJ6_bitCount_0f7a4 (0) (0) D (TY cI cZ cO) xG0 [.int (nI mm)] [] sz (fun (rv_ : Int32) (u : Unit) => rv_ = (nI (popc mm)) ∧ (True)) (fun (u : Unit) => []) := by
  refine xMi.of (cc := cJ6_bitCount_0f7a4) (maxL := 1) (by decide +kernel) rfl (Nat.le_of_ble_eq_true rfl) ?_
  intro p e s m below meth c A Q H hx hb hml hown hts hA hP hD hK hS hG hret ls hl
  have hown : s.vm.findClass RJ6 = some m.cls := hown
  have hP : va_P D vwCl [] H := hP
  have hD : va_D A [] := hD
  have hl : lv_has ls 1 [(0, .int (nI mm))] := hl
  have w_0 := hts (.constant RJ6 265 (1431655765)) (List.mem_of_getElem? (i := 1) (by rfl))
  have w_1 := hts (.constant RJ6 266 (858993459)) (List.mem_of_getElem? (i := 2) (by rfl))
  have w_2 := hts (.constant RJ6 267 (252645135)) (List.mem_of_getElem? (i := 3) (by rfl))
  have _h0 : True := trivial
  refine lv_iload_n hx hb dJ6_bitCount_0f7a4_0 rfl (lv_at hl 0 rfl) ?_
  refine lv_iload_n hx hb dJ6_bitCount_0f7a4_1 rfl (lv_at hl 0 rfl) ?_
  refine lv_iconst (v := (1 : Int32)) hx hb dJ6_bitCount_0f7a4_2 (by decide) ?_
  refine lv_iushr hx hb dJ6_bitCount_0f7a4_3 rfl ?_
  refine lv_ldcw hx hb hown w_0 dJ6_bitCount_0f7a4_4 ?_
  refine lv_iand hx hb dJ6_bitCount_0f7a4_7 ?_
  refine lv_isub hx hb dJ6_bitCount_0f7a4_8 ?_
  refine lv_topi (fun x1 ex1 => ?_)
  refine lv_istore_n (lv' := [(0, .int x1)]) hx hb dJ6_bitCount_0f7a4_9 rfl hl (by decide) rfl (fun ls hl => ?_)
  refine lv_iload_n hx hb dJ6_bitCount_0f7a4_10 rfl (lv_at hl 0 rfl) ?_
  refine lv_ldcw hx hb hown w_1 dJ6_bitCount_0f7a4_11 ?_
  refine lv_iand hx hb dJ6_bitCount_0f7a4_14 ?_
  refine lv_iload_n hx hb dJ6_bitCount_0f7a4_15 rfl (lv_at hl 0 rfl) ?_
  refine lv_iconst (v := (2 : Int32)) hx hb dJ6_bitCount_0f7a4_16 (by decide) ?_
  refine lv_iushr hx hb dJ6_bitCount_0f7a4_17 rfl ?_
  refine lv_ldcw hx hb hown w_1 dJ6_bitCount_0f7a4_18 ?_
  refine lv_iand hx hb dJ6_bitCount_0f7a4_21 ?_
  refine lv_iadd hx hb dJ6_bitCount_0f7a4_22 ?_
  refine lv_topi (fun x2 ex2 => ?_)
  refine lv_istore_n (lv' := [(0, .int x2)]) hx hb dJ6_bitCount_0f7a4_23 rfl hl (by decide) rfl (fun ls hl => ?_)
  refine lv_iload_n hx hb dJ6_bitCount_0f7a4_24 rfl (lv_at hl 0 rfl) ?_
  refine lv_iload_n hx hb dJ6_bitCount_0f7a4_25 rfl (lv_at hl 0 rfl) ?_
  refine lv_iconst (v := (4 : Int32)) hx hb dJ6_bitCount_0f7a4_26 (by decide) ?_
  refine lv_iushr hx hb dJ6_bitCount_0f7a4_27 rfl ?_
  refine lv_iadd hx hb dJ6_bitCount_0f7a4_28 ?_
  refine lv_ldcw hx hb hown w_2 dJ6_bitCount_0f7a4_29 ?_
  refine lv_iand hx hb dJ6_bitCount_0f7a4_32 ?_
  refine lv_topi (fun x3 ex3 => ?_)
  refine lv_istore_n (lv' := [(0, .int x3)]) hx hb dJ6_bitCount_0f7a4_33 rfl hl (by decide) rfl (fun ls hl => ?_)
  refine lv_iload_n hx hb dJ6_bitCount_0f7a4_34 rfl (lv_at hl 0 rfl) ?_
  refine lv_iload_n hx hb dJ6_bitCount_0f7a4_35 rfl (lv_at hl 0 rfl) ?_
  refine lv_bipush (v := (8 : Int32)) hx hb dJ6_bitCount_0f7a4_36 (by decide) ?_
  refine lv_iushr hx hb dJ6_bitCount_0f7a4_38 rfl ?_
  refine lv_iadd hx hb dJ6_bitCount_0f7a4_39 ?_
  refine lv_topi (fun x4 ex4 => ?_)
  refine lv_istore_n (lv' := [(0, .int x4)]) hx hb dJ6_bitCount_0f7a4_40 rfl hl (by decide) rfl (fun ls hl => ?_)
  refine lv_iload_n hx hb dJ6_bitCount_0f7a4_41 rfl (lv_at hl 0 rfl) ?_
  refine lv_iload_n hx hb dJ6_bitCount_0f7a4_42 rfl (lv_at hl 0 rfl) ?_
  refine lv_bipush (v := (16 : Int32)) hx hb dJ6_bitCount_0f7a4_43 (by decide) ?_
  refine lv_iushr hx hb dJ6_bitCount_0f7a4_45 rfl ?_
  refine lv_iadd hx hb dJ6_bitCount_0f7a4_46 ?_
  refine lv_topi (fun x5 ex5 => ?_)
  refine lv_istore_n (lv' := [(0, .int x5)]) hx hb dJ6_bitCount_0f7a4_47 rfl hl (by decide) rfl (fun ls hl => ?_)
  refine lv_iload_n hx hb dJ6_bitCount_0f7a4_48 rfl (lv_at hl 0 rfl) ?_
  refine lv_bipush (v := (63 : Int32)) hx hb dJ6_bitCount_0f7a4_49 (by decide) ?_
  refine lv_iand hx hb dJ6_bitCount_0f7a4_51 ?_
  exact hret _ () _ _ _ _ (rfl) (⟨by subst ex5 ex4 ex3 ex2 ex1; exact bitc_ok hm, trivial⟩) hP hD hS dJ6_bitCount_0f7a4_52

set_option maxHeartbeats 4000000 in
set_option maxRecDepth 100000 in
theorem c_X8_howManyRoofs (l : Launch) (D : va_G) (cI cZ cO : ClassId) (sz : Nat) (o0 : Nat) (o1 : Nat) (o2 : Nat) (o3 : Nat) (o4 : Nat) (o5 : Nat) (o6 : Nat) (xs : Nat → Int32) (ys : Nat → Int32) (rf : Nat → Int32) (bo : Nat → Int32) (pr : Nat → Int32) (bu : Nat → Int32) (n : Nat) (k : Nat) (wd : Int32) (wt : Bool) (hn : n ≤ 8) : xMi l yX8_howManyRoofs wsX8_howManyRoofs (1) (23) D (TY cI cZ cO) xG0 [.ref o0] [(o0, .inr (7, [.ref o1, .ref o2, .ref o3, .ref o4, .ref o5, .ref o6, .int (nI n), .int (nI k), .int wd, .int (bb wt)])), (o1, .inl (cI, 8, .inl xs)), (o2, .inl (cI, 8, .inl ys)), (o3, .inl (cI, 8, .inl rf)), (o4, .inl (cI, 8, .inl bo)), (o5, .inl (cI, 4, .inl pr)), (o6, .inl (cI, 4, .inl bu))] sz (fun (rv_ : Int32) (u : Unit) => rv_ = (nI (n - popc (mkM (fun g => decide (rf g = (-9))) n))) ∧ (True)) (fun (u : Unit) => [(o0, .inr (7, [.ref o1, .ref o2, .ref o3, .ref o4, .ref o5, .ref o6, .int (nI n), .int (nI k), .int wd, .int (bb wt)])), (o1, .inl (cI, 8, .inl xs)), (o2, .inl (cI, 8, .inl ys)), (o3, .inl (cI, 8, .inl rf)), (o4, .inl (cI, 8, .inl bo)), (o5, .inl (cI, 4, .inl pr)), (o6, .inl (cI, 4, .inl bu))]) := by
  refine xMi.of (cc := cX8_howManyRoofs) (maxL := 1) (by decide +kernel) rfl (Nat.le_of_ble_eq_true rfl) ?_
  intro p e s m below meth c A Q H hx hb hml hown hts hA hP hD hK hS hG hret ls hl
  have hown : s.vm.findClass RX8 = some m.cls := hown
  have hP : va_P D vwCl [(o0, .inr (7, [.ref o1, .ref o2, .ref o3, .ref o4, .ref o5, .ref o6, .int (nI n), .int (nI k), .int wd, .int (bb wt)])), (o1, .inl (cI, 8, .inl xs)), (o2, .inl (cI, 8, .inl ys)), (o3, .inl (cI, 8, .inl rf)), (o4, .inl (cI, 8, .inl bo)), (o5, .inl (cI, 4, .inl pr)), (o6, .inl (cI, 4, .inl bu))] H := hP
  have hD : va_D A [(o0, .inr (7, [.ref o1, .ref o2, .ref o3, .ref o4, .ref o5, .ref o6, .int (nI n), .int (nI k), .int wd, .int (bb wt)])), (o1, .inl (cI, 8, .inl xs)), (o2, .inl (cI, 8, .inl ys)), (o3, .inl (cI, 8, .inl rf)), (o4, .inl (cI, 8, .inl bo)), (o5, .inl (cI, 4, .inl pr)), (o6, .inl (cI, 4, .inl bu))] := hD
  have hl : lv_has ls 1 [(0, .ref o0)] := hl
  have w_0 := hts (.fieldLink RX8 30 "UnlikeRoofs$Town" "houses" "I") (List.mem_of_getElem? (i := 1) (by rfl))
  have hin_X8 : ∀ w ∈ wsX80, w ∈ wsX8_howManyRoofs := fun _ h => List.mem_cons_of_mem _ (List.mem_append_right _ h)
  have _h0 : True := trivial
  refine lv_aload_n hx hb dX8_howManyRoofs_0 rfl (lv_at hl 0 rfl) ?_
  refine va_get (D := D) (ci := 7) (v := .int (nI n)) (C := RX8) (T := TX8) (N := 10) hx hb hts hin_X8 hown hK hP 0 rfl rfl 6 (by decide) w_0 (fun _ h9 => h9) rfl dX8_howManyRoofs_1 ?_
  refine lv_aload_n hx hb dX8_howManyRoofs_4 rfl (lv_at hl 0 rfl) ?_
  refine lv_bipush (v := (-9 : Int32)) hx hb dX8_howManyRoofs_5 (by decide) ?_
  refine xcV_i (As := [.int (-9 : Int32)]) (rest := [.int (nI n)]) (wc := [(o0, .inr (7, [.ref o1, .ref o2, .ref o3, .ref o4, .ref o5, .ref o6, .int (nI n), .int (nI k), .int wd, .int (bb wt)])), (o1, .inl (cI, 8, .inl xs)), (o2, .inl (cI, 8, .inl ys)), (o3, .inl (cI, 8, .inl rf)), (o4, .inl (cI, 8, .inl bo)), (o5, .inl (cI, 4, .inl pr)), (o6, .inl (cI, 4, .inl bu))]) (wr := []) (w3 := fun (u : Unit) => [(o0, .inr (7, [.ref o1, .ref o2, .ref o3, .ref o4, .ref o5, .ref o6, .int (nI n), .int (nI k), .int wd, .int (bb wt)])), (o1, .inl (cI, 8, .inl xs)), (o2, .inl (cI, 8, .inl ys)), (o3, .inl (cI, 8, .inl rf)), (o4, .inl (cI, 8, .inl bo)), (o5, .inl (cI, 4, .inl pr)), (o6, .inl (cI, 4, .inl bu))]) ⟨hx, hb, hml, hown, hts⟩ (c_X8_roofedWith l D cI cZ cO H.size o0 o1 o2 o3 o4 o5 o6 xs ys rf bo pr bu n k wd wt (-9 : Int32) (by first | assumption | omega | rfl)) (cwV 1 hts gX8_howManyRoofs_X8_roofedWith rfl rfl rfl (by decide +kernel) ⟨Nat.le_of_ble_eq_true rfl, Nat.le_of_ble_eq_true rfl⟩) xGd0 xGd0 (fun _ _ _ _ => trivial) hG hP hD hK hS hA [0, 1, 2, 3, 4, 5, 6] [] [0, 1, 2, 3, 4, 5, 6] rfl rfl rfl rfl rfl 0 rfl rfl rfl (fun _ => rfl) rfl rfl hl.1 (Nat.le_of_ble_eq_true rfl) dX8_howManyRoofs_7 ⟨Nat.zero_le _, Nat.zero_le _⟩ (fun r u H locs hw hP hD hS => ?_)
  obtain ⟨rfl, hw⟩ := hw
  have hw_7 : True := hw
  have hP : va_P D vwCl [(o0, .inr (7, [.ref o1, .ref o2, .ref o3, .ref o4, .ref o5, .ref o6, .int (nI n), .int (nI k), .int wd, .int (bb wt)])), (o1, .inl (cI, 8, .inl xs)), (o2, .inl (cI, 8, .inl ys)), (o3, .inl (cI, 8, .inl rf)), (o4, .inl (cI, 8, .inl bo)), (o5, .inl (cI, 4, .inl pr)), (o6, .inl (cI, 4, .inl bu))] H := hP
  have hD : va_D A [(o0, .inr (7, [.ref o1, .ref o2, .ref o3, .ref o4, .ref o5, .ref o6, .int (nI n), .int (nI k), .int wd, .int (bb wt)])), (o1, .inl (cI, 8, .inl xs)), (o2, .inl (cI, 8, .inl ys)), (o3, .inl (cI, 8, .inl rf)), (o4, .inl (cI, 8, .inl bo)), (o5, .inl (cI, 4, .inl pr)), (o6, .inl (cI, 4, .inl bu))] := hD
  refine xcS_i (As := [.int (nI (mkM (fun g => decide (rf g = (-9 : Int32))) n))]) (rest := [.int (nI n)]) (wc := []) (wr := [(o0, .inr (7, [.ref o1, .ref o2, .ref o3, .ref o4, .ref o5, .ref o6, .int (nI n), .int (nI k), .int wd, .int (bb wt)])), (o1, .inl (cI, 8, .inl xs)), (o2, .inl (cI, 8, .inl ys)), (o3, .inl (cI, 8, .inl rf)), (o4, .inl (cI, 8, .inl bo)), (o5, .inl (cI, 4, .inl pr)), (o6, .inl (cI, 4, .inl bu))]) (w3 := fun (u : Unit) => [(o0, .inr (7, [.ref o1, .ref o2, .ref o3, .ref o4, .ref o5, .ref o6, .int (nI n), .int (nI k), .int wd, .int (bb wt)])), (o1, .inl (cI, 8, .inl xs)), (o2, .inl (cI, 8, .inl ys)), (o3, .inl (cI, 8, .inl rf)), (o4, .inl (cI, 8, .inl bo)), (o5, .inl (cI, 4, .inl pr)), (o6, .inl (cI, 4, .inl bu))]) ⟨hx, hb, hml, hown, hts⟩ (c_J6_bitCount_0f7a4 l D cI cZ cO H.size (mkM (fun g => decide (rf g = (-9 : Int32))) n) (mkM_256 hn)) (va_cwS 1 hts gX8_howManyRoofs_J6_bitCount_0f7a4 rfl rfl rfl (by decide +kernel) ⟨Nat.le_of_ble_eq_true rfl, Nat.le_of_ble_eq_true rfl⟩) xGd0 xGd0 (fun _ _ _ _ => trivial) hG hP hD hK hS hA [] [0, 1, 2, 3, 4, 5, 6] [0, 1, 2, 3, 4, 5, 6] rfl rfl rfl rfl rfl rfl (fun _ => rfl) rfl rfl hl.1 (Nat.le_of_ble_eq_true rfl) dX8_howManyRoofs_10 ⟨Nat.zero_le _, Nat.zero_le _⟩ (fun r u H locs hw hP hD hS => ?_)
  obtain ⟨rfl, hw⟩ := hw
  have hw_10 : True := hw
  have hP : va_P D vwCl [(o0, .inr (7, [.ref o1, .ref o2, .ref o3, .ref o4, .ref o5, .ref o6, .int (nI n), .int (nI k), .int wd, .int (bb wt)])), (o1, .inl (cI, 8, .inl xs)), (o2, .inl (cI, 8, .inl ys)), (o3, .inl (cI, 8, .inl rf)), (o4, .inl (cI, 8, .inl bo)), (o5, .inl (cI, 4, .inl pr)), (o6, .inl (cI, 4, .inl bu))] H := hP
  have hD : va_D A [(o0, .inr (7, [.ref o1, .ref o2, .ref o3, .ref o4, .ref o5, .ref o6, .int (nI n), .int (nI k), .int wd, .int (bb wt)])), (o1, .inl (cI, 8, .inl xs)), (o2, .inl (cI, 8, .inl ys)), (o3, .inl (cI, 8, .inl rf)), (o4, .inl (cI, 8, .inl bo)), (o5, .inl (cI, 4, .inl pr)), (o6, .inl (cI, 4, .inl bu))] := hD
  refine lv_isub hx hb dX8_howManyRoofs_13 ?_
  refine lv_topr (x' := nI (n - popc (mkM (fun g => decide (rf g = (-9))) n))) (pk_sub (popc_le hn _)) ?_
  exact hret _ () _ _ _ _ (rfl) (⟨rfl, trivial⟩) hP hD hS dX8_howManyRoofs_14

set_option maxHeartbeats 4000000 in
set_option maxRecDepth 100000 in
theorem c_X8_pairsThatTouch (l : Launch) (D : va_G) (cI cZ cO : ClassId) (sz : Nat) (o0 : Nat) (o1 : Nat) (o2 : Nat) (o3 : Nat) (o4 : Nat) (o5 : Nat) (o6 : Nat) (xs : Nat → Int32) (ys : Nat → Int32) (rf : Nat → Int32) (bo : Nat → Int32) (pr : Nat → Int32) (bu : Nat → Int32) (n : Nat) (k : Nat) (wd : Int32) (wt : Bool) (hn : n ≤ 8) : xMi l yX8_pairsThatTouch wsX8_pairsThatTouch (3) (68) D (TY cI cZ cO) xG0 [.ref o0] [(o0, .inr (7, [.ref o1, .ref o2, .ref o3, .ref o4, .ref o5, .ref o6, .int (nI n), .int (nI k), .int wd, .int (bb wt)])), (o1, .inl (cI, 8, .inl xs)), (o2, .inl (cI, 8, .inl ys)), (o3, .inl (cI, 8, .inl rf)), (o4, .inl (cI, 8, .inl bo)), (o5, .inl (cI, 4, .inl pr)), (o6, .inl (cI, 4, .inl bu))] sz (fun (rv_ : Int32) (u : Unit) => rv_ = (nI (sumN (fun h => popc (mkM (fun g => arb xs ys h 1 g) n)) n / 2)) ∧ (True)) (fun (u : Unit) => [(o0, .inr (7, [.ref o1, .ref o2, .ref o3, .ref o4, .ref o5, .ref o6, .int (nI n), .int (nI k), .int wd, .int (bb wt)])), (o1, .inl (cI, 8, .inl xs)), (o2, .inl (cI, 8, .inl ys)), (o3, .inl (cI, 8, .inl rf)), (o4, .inl (cI, 8, .inl bo)), (o5, .inl (cI, 4, .inl pr)), (o6, .inl (cI, 4, .inl bu))]) := by
  refine xMi.of (cc := cX8_pairsThatTouch) (maxL := 3) (by decide +kernel) rfl (Nat.le_of_ble_eq_true rfl) ?_
  intro p e s m below meth c A Q H hx hb hml hown hts hA hP hD hK hS hG hret ls hl
  have hown : s.vm.findClass RX8 = some m.cls := hown
  have hP : va_P D vwCl [(o0, .inr (7, [.ref o1, .ref o2, .ref o3, .ref o4, .ref o5, .ref o6, .int (nI n), .int (nI k), .int wd, .int (bb wt)])), (o1, .inl (cI, 8, .inl xs)), (o2, .inl (cI, 8, .inl ys)), (o3, .inl (cI, 8, .inl rf)), (o4, .inl (cI, 8, .inl bo)), (o5, .inl (cI, 4, .inl pr)), (o6, .inl (cI, 4, .inl bu))] H := hP
  have hD : va_D A [(o0, .inr (7, [.ref o1, .ref o2, .ref o3, .ref o4, .ref o5, .ref o6, .int (nI n), .int (nI k), .int wd, .int (bb wt)])), (o1, .inl (cI, 8, .inl xs)), (o2, .inl (cI, 8, .inl ys)), (o3, .inl (cI, 8, .inl rf)), (o4, .inl (cI, 8, .inl bo)), (o5, .inl (cI, 4, .inl pr)), (o6, .inl (cI, 4, .inl bu))] := hD
  have hl : lv_has ls 3 [(0, .ref o0)] := hl
  have w_0 := hts (.fieldLink RX8 30 "UnlikeRoofs$Town" "houses" "I") (List.mem_of_getElem? (i := 1) (by rfl))
  have hin_X8 : ∀ w ∈ wsX80, w ∈ wsX8_pairsThatTouch := fun _ h => List.mem_cons_of_mem _ (List.mem_append_right _ h)
  have _h0 : True := trivial
  refine lv_iconst (v := (0 : Int32)) hx hb dX8_pairsThatTouch_0 (by decide) ?_
  refine lv_istore_n (lv' := [(1, .int (0 : Int32)), (0, .ref o0)]) hx hb dX8_pairsThatTouch_1 rfl hl (by decide) rfl (fun ls hl => ?_)
  refine lv_iconst (v := (0 : Int32)) hx hb dX8_pairsThatTouch_2 (by decide) ?_
  refine lv_istore_n (lv' := [(2, .int (0 : Int32)), (1, .int (0 : Int32)), (0, .ref o0)]) hx hb dX8_pairsThatTouch_3 rfl hl (by decide) rfl (fun ls hl => ?_)
  have L_4 : ∀ (fuel : Nat) (b : Nat) (i : Nat), (i ≤ n) → (b = sumN (fun h => popc (mkM (fun g => arb xs ys h 1 g) n)) i) → (n - i) < fuel → ∀ (H : Heap) (locs : List Loc), va_P D vwCl [(o0, .inr (7, [.ref o1, .ref o2, .ref o3, .ref o4, .ref o5, .ref o6, .int (nI n), .int (nI k), .int wd, .int (bb wt)])), (o1, .inl (cI, 8, .inl xs)), (o2, .inl (cI, 8, .inl ys)), (o3, .inl (cI, 8, .inl rf)), (o4, .inl (cI, 8, .inl bo)), (o5, .inl (cI, 4, .inl pr)), (o6, .inl (cI, 4, .inl bu))] H → va_D A [(o0, .inr (7, [.ref o1, .ref o2, .ref o3, .ref o4, .ref o5, .ref o6, .int (nI n), .int (nI k), .int wd, .int (bb wt)])), (o1, .inl (cI, 8, .inl xs)), (o2, .inl (cI, 8, .inl ys)), (o3, .inl (cI, 8, .inl rf)), (o4, .inl (cI, 8, .inl bo)), (o5, .inl (cI, 4, .inl pr)), (o6, .inl (cI, 4, .inl bu))] → va_S A s.heap H locs → ∀ ls : Array Slot, lv_has ls 3 [(2, .int (nI i)), (1, .int (nI b)), (0, .ref o0)] → W p l e (xRm 3 68) s m ([.ref o0] : List Value).toArray below meth c H locs 0 0 Q (F0 m 4 ls []) := by
    intro fuel
    induction fuel with
    | zero =>
      intro b i hi hbm hm
      exact absurd hm (Nat.not_lt_zero _)
    | succ fuel ih_4 =>
      intro b i hi hbm hm_4 H locs hP hD hS ls hl
      refine lv_iload_n hx hb dX8_pairsThatTouch_4 rfl (lv_at hl 0 rfl) ?_
      refine lv_aload_n hx hb dX8_pairsThatTouch_5 rfl (lv_at hl 2 rfl) ?_
      refine va_get (D := D) (ci := 7) (v := .int (nI n)) (C := RX8) (T := TX8) (N := 10) hx hb hts hin_X8 hown hK hP 0 rfl rfl 6 (by decide) w_0 (fun _ h9 => h9) rfl dX8_pairsThatTouch_6 ?_
      refine lv_icmp_ge (tgt := 29) hx hb dX8_pairsThatTouch_9 (by decide) (fun c_9 => ?_) (fun c_9 => ?_)
      ·
        have n_9 : n ≤ i := (nI_leI (show n < 2147483648 by omega) (show i < 2147483648 by omega)).1 c_9
        refine lv_iload_n hx hb dX8_pairsThatTouch_29 rfl (lv_at hl 1 rfl) ?_
        refine lv_iconst (v := (2 : Int32)) hx hb dX8_pairsThatTouch_30 (by decide) ?_
        refine lv_idiv hx hb dX8_pairsThatTouch_31 (by decide) ?_
        refine lv_topr (x' := nI (b / 2)) (by rw [show (2 : Int32) = nI 2 from rfl]; exact pk_div (by rw [hbm]; exact sum_small hn hi _ (fun h => popc_le8 _)) (by decide) (by decide)) ?_
        exact hret _ () _ _ _ _ (rfl) (⟨by rw [hbm, show i = n by omega], trivial⟩) hP hD hS dX8_pairsThatTouch_32
      ·
        have n_9 : i < n := Nat.lt_of_not_le (fun q => c_9 ((nI_leI (show n < 2147483648 by omega) (show i < 2147483648 by omega)).2 q))
        refine lv_iload_n hx hb dX8_pairsThatTouch_12 rfl (lv_at hl 1 rfl) ?_
        refine lv_aload_n hx hb dX8_pairsThatTouch_13 rfl (lv_at hl 2 rfl) ?_
        refine lv_iload_n hx hb dX8_pairsThatTouch_14 rfl (lv_at hl 0 rfl) ?_
        refine xcV_i (As := [.int (nI i)]) (rest := [.int (nI b)]) (wc := [(o0, .inr (7, [.ref o1, .ref o2, .ref o3, .ref o4, .ref o5, .ref o6, .int (nI n), .int (nI k), .int wd, .int (bb wt)])), (o1, .inl (cI, 8, .inl xs)), (o2, .inl (cI, 8, .inl ys)), (o3, .inl (cI, 8, .inl rf)), (o4, .inl (cI, 8, .inl bo)), (o5, .inl (cI, 4, .inl pr)), (o6, .inl (cI, 4, .inl bu))]) (wr := []) (w3 := fun (u : Unit) => [(o0, .inr (7, [.ref o1, .ref o2, .ref o3, .ref o4, .ref o5, .ref o6, .int (nI n), .int (nI k), .int wd, .int (bb wt)])), (o1, .inl (cI, 8, .inl xs)), (o2, .inl (cI, 8, .inl ys)), (o3, .inl (cI, 8, .inl rf)), (o4, .inl (cI, 8, .inl bo)), (o5, .inl (cI, 4, .inl pr)), (o6, .inl (cI, 4, .inl bu))]) ⟨hx, hb, hml, hown, hts⟩ (c_X8_touched l D cI cZ cO H.size o0 o1 o2 o3 o4 o5 o6 xs ys rf bo pr bu n k wd wt i (by first | assumption | omega | rfl) (by first | assumption | omega | rfl)) (cwV 1 hts gX8_pairsThatTouch_X8_touched rfl rfl rfl (by decide +kernel) ⟨Nat.le_of_ble_eq_true rfl, Nat.le_of_ble_eq_true rfl⟩) xGd0 xGd0 (fun _ _ _ _ => trivial) hG hP hD hK hS hA [0, 1, 2, 3, 4, 5, 6] [] [0, 1, 2, 3, 4, 5, 6] rfl rfl rfl rfl rfl 0 rfl rfl rfl (fun _ => rfl) rfl rfl hl.1 (Nat.le_of_ble_eq_true rfl) dX8_pairsThatTouch_15 ⟨Nat.zero_le _, Nat.zero_le _⟩ (fun r u H locs hw hP hD hS => ?_)
        obtain ⟨rfl, hw⟩ := hw
        have hw_15 : True := hw
        have hP : va_P D vwCl [(o0, .inr (7, [.ref o1, .ref o2, .ref o3, .ref o4, .ref o5, .ref o6, .int (nI n), .int (nI k), .int wd, .int (bb wt)])), (o1, .inl (cI, 8, .inl xs)), (o2, .inl (cI, 8, .inl ys)), (o3, .inl (cI, 8, .inl rf)), (o4, .inl (cI, 8, .inl bo)), (o5, .inl (cI, 4, .inl pr)), (o6, .inl (cI, 4, .inl bu))] H := hP
        have hD : va_D A [(o0, .inr (7, [.ref o1, .ref o2, .ref o3, .ref o4, .ref o5, .ref o6, .int (nI n), .int (nI k), .int wd, .int (bb wt)])), (o1, .inl (cI, 8, .inl xs)), (o2, .inl (cI, 8, .inl ys)), (o3, .inl (cI, 8, .inl rf)), (o4, .inl (cI, 8, .inl bo)), (o5, .inl (cI, 4, .inl pr)), (o6, .inl (cI, 4, .inl bu))] := hD
        refine xcS_i (As := [.int (nI (mkM (fun g => arb xs ys i 1 g) n))]) (rest := [.int (nI b)]) (wc := []) (wr := [(o0, .inr (7, [.ref o1, .ref o2, .ref o3, .ref o4, .ref o5, .ref o6, .int (nI n), .int (nI k), .int wd, .int (bb wt)])), (o1, .inl (cI, 8, .inl xs)), (o2, .inl (cI, 8, .inl ys)), (o3, .inl (cI, 8, .inl rf)), (o4, .inl (cI, 8, .inl bo)), (o5, .inl (cI, 4, .inl pr)), (o6, .inl (cI, 4, .inl bu))]) (w3 := fun (u : Unit) => [(o0, .inr (7, [.ref o1, .ref o2, .ref o3, .ref o4, .ref o5, .ref o6, .int (nI n), .int (nI k), .int wd, .int (bb wt)])), (o1, .inl (cI, 8, .inl xs)), (o2, .inl (cI, 8, .inl ys)), (o3, .inl (cI, 8, .inl rf)), (o4, .inl (cI, 8, .inl bo)), (o5, .inl (cI, 4, .inl pr)), (o6, .inl (cI, 4, .inl bu))]) ⟨hx, hb, hml, hown, hts⟩ (c_J6_bitCount_0f7a4 l D cI cZ cO H.size (mkM (fun g => arb xs ys i 1 g) n) (mkM_256 hn)) (va_cwS 1 hts gX8_pairsThatTouch_J6_bitCount_0f7a4 rfl rfl rfl (by decide +kernel) ⟨Nat.le_of_ble_eq_true rfl, Nat.le_of_ble_eq_true rfl⟩) xGd0 xGd0 (fun _ _ _ _ => trivial) hG hP hD hK hS hA [] [0, 1, 2, 3, 4, 5, 6] [0, 1, 2, 3, 4, 5, 6] rfl rfl rfl rfl rfl rfl (fun _ => rfl) rfl rfl hl.1 (Nat.le_of_ble_eq_true rfl) dX8_pairsThatTouch_18 ⟨Nat.zero_le _, Nat.zero_le _⟩ (fun r u H locs hw hP hD hS => ?_)
        obtain ⟨rfl, hw⟩ := hw
        have hw_18 : True := hw
        have hP : va_P D vwCl [(o0, .inr (7, [.ref o1, .ref o2, .ref o3, .ref o4, .ref o5, .ref o6, .int (nI n), .int (nI k), .int wd, .int (bb wt)])), (o1, .inl (cI, 8, .inl xs)), (o2, .inl (cI, 8, .inl ys)), (o3, .inl (cI, 8, .inl rf)), (o4, .inl (cI, 8, .inl bo)), (o5, .inl (cI, 4, .inl pr)), (o6, .inl (cI, 4, .inl bu))] H := hP
        have hD : va_D A [(o0, .inr (7, [.ref o1, .ref o2, .ref o3, .ref o4, .ref o5, .ref o6, .int (nI n), .int (nI k), .int wd, .int (bb wt)])), (o1, .inl (cI, 8, .inl xs)), (o2, .inl (cI, 8, .inl ys)), (o3, .inl (cI, 8, .inl rf)), (o4, .inl (cI, 8, .inl bo)), (o5, .inl (cI, 4, .inl pr)), (o6, .inl (cI, 4, .inl bu))] := hD
        refine lv_iadd hx hb dX8_pairsThatTouch_21 ?_
        refine lv_topr (x' := nI (b + (popc (mkM (fun g => arb xs ys i 1 g) n)))) (nI_add b (popc (mkM (fun g => arb xs ys i 1 g) n))) ?_
        refine lv_istore_n (lv' := [(1, .int (nI (b + (popc (mkM (fun g => arb xs ys i 1 g) n))))), (2, .int (nI i)), (0, .ref o0)]) hx hb dX8_pairsThatTouch_22 rfl hl (by decide) rfl (fun ls hl => ?_)
        refine lv_iinc (v := nI (i + 1)) (lv' := [(2, .int (nI (i + 1))), (1, .int (nI (b + (popc (mkM (fun g => arb xs ys i 1 g) n))))), (0, .ref o0)]) hx hb dX8_pairsThatTouch_23 hl (k := 1) rfl (by first | rfl | exact nI_add _ 1 | (simp only [] ; exact nI_add _ 1)) (by decide) rfl (fun ls hl => ?_)
        refine lv_goto (tgt := 4) hx hb dX8_pairsThatTouch_26 (by decide) ?_
        exact ih_4 (b + (popc (mkM (fun g => arb xs ys i 1 g) n))) (i + 1) (by omega) (by rw [sumN, hbm]) (by omega) _ _ hP hD hS _ (lv_sub hl [0, 1, 2] rfl)
  exact L_4 (Nat.succ (n - 0)) 0 0 (Nat.zero_le _) (rfl) (Nat.lt_succ_self _) _ _ hP hD hS _ (lv_sub hl [0, 1, 2] rfl)

set_option maxHeartbeats 4000000 in
set_option maxRecDepth 100000 in
theorem c_X8_unlawfulPairs (l : Launch) (D : va_G) (cI cZ cO : ClassId) (sz : Nat) (o0 : Nat) (o1 : Nat) (o2 : Nat) (o3 : Nat) (o4 : Nat) (o5 : Nat) (o6 : Nat) (xs : Nat → Int32) (ys : Nat → Int32) (rf : Nat → Int32) (bo : Nat → Int32) (pr : Nat → Int32) (bu : Nat → Int32) (n : Nat) (k : Nat) (wd : Int32) (wt : Bool) (sp : Int32) (hn : n ≤ 8) : xMi l yX8_unlawfulPairs wsX8_unlawfulPairs (3) (69) D (TY cI cZ cO) xG0 [.ref o0, .int sp] [(o0, .inr (7, [.ref o1, .ref o2, .ref o3, .ref o4, .ref o5, .ref o6, .int (nI n), .int (nI k), .int wd, .int (bb wt)])), (o1, .inl (cI, 8, .inl xs)), (o2, .inl (cI, 8, .inl ys)), (o3, .inl (cI, 8, .inl rf)), (o4, .inl (cI, 8, .inl bo)), (o5, .inl (cI, 4, .inl pr)), (o6, .inl (cI, 4, .inl bu))] sz (fun (rv_ : Int32) (u : Unit) => rv_ = (nI (sumN (unl xs ys rf sp n) n / 2)) ∧ (True)) (fun (u : Unit) => [(o0, .inr (7, [.ref o1, .ref o2, .ref o3, .ref o4, .ref o5, .ref o6, .int (nI n), .int (nI k), .int wd, .int (bb wt)])), (o1, .inl (cI, 8, .inl xs)), (o2, .inl (cI, 8, .inl ys)), (o3, .inl (cI, 8, .inl rf)), (o4, .inl (cI, 8, .inl bo)), (o5, .inl (cI, 4, .inl pr)), (o6, .inl (cI, 4, .inl bu))]) := by
  refine xMi.of (cc := cX8_unlawfulPairs) (maxL := 4) (by decide +kernel) rfl (Nat.le_of_ble_eq_true rfl) ?_
  intro p e s m below meth c A Q H hx hb hml hown hts hA hP hD hK hS hG hret ls hl
  have hown : s.vm.findClass RX8 = some m.cls := hown
  have hP : va_P D vwCl [(o0, .inr (7, [.ref o1, .ref o2, .ref o3, .ref o4, .ref o5, .ref o6, .int (nI n), .int (nI k), .int wd, .int (bb wt)])), (o1, .inl (cI, 8, .inl xs)), (o2, .inl (cI, 8, .inl ys)), (o3, .inl (cI, 8, .inl rf)), (o4, .inl (cI, 8, .inl bo)), (o5, .inl (cI, 4, .inl pr)), (o6, .inl (cI, 4, .inl bu))] H := hP
  have hD : va_D A [(o0, .inr (7, [.ref o1, .ref o2, .ref o3, .ref o4, .ref o5, .ref o6, .int (nI n), .int (nI k), .int wd, .int (bb wt)])), (o1, .inl (cI, 8, .inl xs)), (o2, .inl (cI, 8, .inl ys)), (o3, .inl (cI, 8, .inl rf)), (o4, .inl (cI, 8, .inl bo)), (o5, .inl (cI, 4, .inl pr)), (o6, .inl (cI, 4, .inl bu))] := hD
  have hl : lv_has ls 4 [(0, .ref o0), (1, .int sp)] := hl
  have w_0 := hts (.fieldLink RX8 30 "UnlikeRoofs$Town" "houses" "I") (List.mem_of_getElem? (i := 1) (by rfl))
  have w_1 := hts (.fieldLink RX8 18 "UnlikeRoofs$Town" "roofs" "[I") (List.mem_of_getElem? (i := 2) (by rfl))
  have hin_X8 : ∀ w ∈ wsX80, w ∈ wsX8_unlawfulPairs := fun _ h => List.mem_cons_of_mem _ (List.mem_append_right _ h)
  have _h0 : True := trivial
  refine lv_iconst (v := (0 : Int32)) hx hb dX8_unlawfulPairs_0 (by decide) ?_
  refine lv_istore_n (lv' := [(2, .int (0 : Int32)), (0, .ref o0), (1, .int sp)]) hx hb dX8_unlawfulPairs_1 rfl hl (by decide) rfl (fun ls hl => ?_)
  refine lv_iconst (v := (0 : Int32)) hx hb dX8_unlawfulPairs_2 (by decide) ?_
  refine lv_istore_n (lv' := [(3, .int (0 : Int32)), (2, .int (0 : Int32)), (0, .ref o0), (1, .int sp)]) hx hb dX8_unlawfulPairs_3 rfl hl (by decide) rfl (fun ls hl => ?_)
  have L_4 : ∀ (fuel : Nat) (b : Nat) (i : Nat), (i ≤ n) → (b = sumN (unl xs ys rf sp n) i) → (n - i) < fuel → ∀ (H : Heap) (locs : List Loc), va_P D vwCl [(o0, .inr (7, [.ref o1, .ref o2, .ref o3, .ref o4, .ref o5, .ref o6, .int (nI n), .int (nI k), .int wd, .int (bb wt)])), (o1, .inl (cI, 8, .inl xs)), (o2, .inl (cI, 8, .inl ys)), (o3, .inl (cI, 8, .inl rf)), (o4, .inl (cI, 8, .inl bo)), (o5, .inl (cI, 4, .inl pr)), (o6, .inl (cI, 4, .inl bu))] H → va_D A [(o0, .inr (7, [.ref o1, .ref o2, .ref o3, .ref o4, .ref o5, .ref o6, .int (nI n), .int (nI k), .int wd, .int (bb wt)])), (o1, .inl (cI, 8, .inl xs)), (o2, .inl (cI, 8, .inl ys)), (o3, .inl (cI, 8, .inl rf)), (o4, .inl (cI, 8, .inl bo)), (o5, .inl (cI, 4, .inl pr)), (o6, .inl (cI, 4, .inl bu))] → va_S A s.heap H locs → ∀ ls : Array Slot, lv_has ls 4 [(3, .int (nI i)), (2, .int (nI b)), (0, .ref o0), (1, .int sp)] → W p l e (xRm 3 69) s m ([.ref o0, .int sp] : List Value).toArray below meth c H locs 0 0 Q (F0 m 4 ls []) := by
    intro fuel
    induction fuel with
    | zero =>
      intro b i hi hbm hm
      exact absurd hm (Nat.not_lt_zero _)
    | succ fuel ih_4 =>
      intro b i hi hbm hm_4 H locs hP hD hS ls hl
      refine lv_iload_n hx hb dX8_unlawfulPairs_4 rfl (lv_at hl 0 rfl) ?_
      refine lv_aload_n hx hb dX8_unlawfulPairs_5 rfl (lv_at hl 2 rfl) ?_
      refine va_get (D := D) (ci := 7) (v := .int (nI n)) (C := RX8) (T := TX8) (N := 10) hx hb hts hin_X8 hown hK hP 0 rfl rfl 6 (by decide) w_0 (fun _ h9 => h9) rfl dX8_unlawfulPairs_6 ?_
      refine lv_icmp_ge (tgt := 52) hx hb dX8_unlawfulPairs_9 (by decide) (fun c_9 => ?_) (fun c_9 => ?_)
      ·
        have n_9 : n ≤ i := (nI_leI (show n < 2147483648 by omega) (show i < 2147483648 by omega)).1 c_9
        refine lv_iload_n hx hb dX8_unlawfulPairs_52 rfl (lv_at hl 1 rfl) ?_
        refine lv_iconst (v := (2 : Int32)) hx hb dX8_unlawfulPairs_53 (by decide) ?_
        refine lv_idiv hx hb dX8_unlawfulPairs_54 (by decide) ?_
        refine lv_topr (x' := nI (b / 2)) (by rw [show (2 : Int32) = nI 2 from rfl]; exact pk_div (by rw [hbm]; exact sum_small hn hi _ (fun h => unl_le8 _ _ _ _ _ _)) (by decide) (by decide)) ?_
        exact hret _ () _ _ _ _ (rfl) (⟨by rw [hbm, show i = n by omega], trivial⟩) hP hD hS dX8_unlawfulPairs_55
      ·
        have n_9 : i < n := Nat.lt_of_not_le (fun q => c_9 ((nI_leI (show n < 2147483648 by omega) (show i < 2147483648 by omega)).2 q))
        refine lv_aload_n hx hb dX8_unlawfulPairs_12 rfl (lv_at hl 2 rfl) ?_
        refine va_get (D := D) (ci := 7) (v := .ref o3) (C := RX8) (T := TX8) (N := 10) hx hb hts hin_X8 hown hK hP 0 rfl rfl 2 (by decide) w_1 (fun _ h9 => h9) rfl dX8_unlawfulPairs_13 ?_
        refine lv_iload_n hx hb dX8_unlawfulPairs_16 rfl (lv_at hl 0 rfl) ?_
        refine x_iald hx hb hK hP 3 0 rfl rfl (j := i) (by omega) (by decide) dX8_unlawfulPairs_17 ?_
        refine lv_bipush (v := (-9 : Int32)) hx hb dX8_unlawfulPairs_18 (by decide) ?_
        refine lv_icmp_eq (tgt := 46) hx hb dX8_unlawfulPairs_20 (by decide) (fun c_20 => ?_) (fun c_20 => ?_)
        ·
          refine lv_iinc (v := nI (i + 1)) (lv' := [(3, .int (nI (i + 1))), (2, .int (nI b)), (0, .ref o0), (1, .int sp)]) hx hb dX8_unlawfulPairs_46 hl (k := 0) rfl (by first | rfl | exact nI_add _ 1 | (simp only [] ; exact nI_add _ 1)) (by decide) rfl (fun ls hl => ?_)
          refine lv_goto (tgt := 4) hx hb dX8_unlawfulPairs_49 (by decide) ?_
          exact ih_4 b (i + 1) (by omega) (by rw [sumN, hbm, unl, if_pos c_20, Nat.add_zero]) (by omega) _ _ hP hD hS _ (lv_sub hl [0, 1, 2, 3] rfl)
        ·
          refine lv_iload_n hx hb dX8_unlawfulPairs_23 rfl (lv_at hl 1 rfl) ?_
          refine lv_aload_n hx hb dX8_unlawfulPairs_24 rfl (lv_at hl 2 rfl) ?_
          refine lv_iload_n hx hb dX8_unlawfulPairs_25 rfl (lv_at hl 0 rfl) ?_
          refine lv_iload_n hx hb dX8_unlawfulPairs_26 rfl (lv_at hl 3 rfl) ?_
          refine xcV_i (As := [.int (nI i), .int sp]) (rest := [.int (nI b)]) (wc := [(o0, .inr (7, [.ref o1, .ref o2, .ref o3, .ref o4, .ref o5, .ref o6, .int (nI n), .int (nI k), .int wd, .int (bb wt)])), (o1, .inl (cI, 8, .inl xs)), (o2, .inl (cI, 8, .inl ys)), (o3, .inl (cI, 8, .inl rf)), (o4, .inl (cI, 8, .inl bo)), (o5, .inl (cI, 4, .inl pr)), (o6, .inl (cI, 4, .inl bu))]) (wr := []) (w3 := fun (u : Unit) => [(o0, .inr (7, [.ref o1, .ref o2, .ref o3, .ref o4, .ref o5, .ref o6, .int (nI n), .int (nI k), .int wd, .int (bb wt)])), (o1, .inl (cI, 8, .inl xs)), (o2, .inl (cI, 8, .inl ys)), (o3, .inl (cI, 8, .inl rf)), (o4, .inl (cI, 8, .inl bo)), (o5, .inl (cI, 4, .inl pr)), (o6, .inl (cI, 4, .inl bu))]) ⟨hx, hb, hml, hown, hts⟩ (c_X8_near l D cI cZ cO H.size o0 o1 o2 o3 o4 o5 o6 xs ys rf bo pr bu n k wd wt i sp (by first | assumption | omega | rfl) (by first | assumption | omega | rfl)) (cwV 2 hts gX8_unlawfulPairs_X8_near rfl rfl rfl (by decide +kernel) ⟨Nat.le_of_ble_eq_true rfl, Nat.le_of_ble_eq_true rfl⟩) xGd0 xGd0 (fun _ _ _ _ => trivial) hG hP hD hK hS hA [0, 1, 2, 3, 4, 5, 6] [] [0, 1, 2, 3, 4, 5, 6] rfl rfl rfl rfl rfl 0 rfl rfl rfl (fun _ => rfl) rfl rfl hl.1 (Nat.le_of_ble_eq_true rfl) dX8_unlawfulPairs_27 ⟨Nat.zero_le _, Nat.zero_le _⟩ (fun r u H locs hw hP hD hS => ?_)
          obtain ⟨rfl, hw⟩ := hw
          have hw_27 : True := hw
          have hP : va_P D vwCl [(o0, .inr (7, [.ref o1, .ref o2, .ref o3, .ref o4, .ref o5, .ref o6, .int (nI n), .int (nI k), .int wd, .int (bb wt)])), (o1, .inl (cI, 8, .inl xs)), (o2, .inl (cI, 8, .inl ys)), (o3, .inl (cI, 8, .inl rf)), (o4, .inl (cI, 8, .inl bo)), (o5, .inl (cI, 4, .inl pr)), (o6, .inl (cI, 4, .inl bu))] H := hP
          have hD : va_D A [(o0, .inr (7, [.ref o1, .ref o2, .ref o3, .ref o4, .ref o5, .ref o6, .int (nI n), .int (nI k), .int wd, .int (bb wt)])), (o1, .inl (cI, 8, .inl xs)), (o2, .inl (cI, 8, .inl ys)), (o3, .inl (cI, 8, .inl rf)), (o4, .inl (cI, 8, .inl bo)), (o5, .inl (cI, 4, .inl pr)), (o6, .inl (cI, 4, .inl bu))] := hD
          refine lv_aload_n hx hb dX8_unlawfulPairs_30 rfl (lv_at hl 2 rfl) ?_
          refine lv_aload_n hx hb dX8_unlawfulPairs_31 rfl (lv_at hl 2 rfl) ?_
          refine va_get (D := D) (ci := 7) (v := .ref o3) (C := RX8) (T := TX8) (N := 10) hx hb hts hin_X8 hown hK hP 0 rfl rfl 2 (by decide) w_1 (fun _ h9 => h9) rfl dX8_unlawfulPairs_32 ?_
          refine lv_iload_n hx hb dX8_unlawfulPairs_35 rfl (lv_at hl 0 rfl) ?_
          refine x_iald hx hb hK hP 3 0 rfl rfl (j := i) (by omega) (by decide) dX8_unlawfulPairs_36 ?_
          refine xcV_i (As := [.int (rf i)]) (rest := [.int (nI (mkM (fun g => nearb xs ys i sp g) n)), .int (nI b)]) (wc := [(o0, .inr (7, [.ref o1, .ref o2, .ref o3, .ref o4, .ref o5, .ref o6, .int (nI n), .int (nI k), .int wd, .int (bb wt)])), (o1, .inl (cI, 8, .inl xs)), (o2, .inl (cI, 8, .inl ys)), (o3, .inl (cI, 8, .inl rf)), (o4, .inl (cI, 8, .inl bo)), (o5, .inl (cI, 4, .inl pr)), (o6, .inl (cI, 4, .inl bu))]) (wr := []) (w3 := fun (u : Unit) => [(o0, .inr (7, [.ref o1, .ref o2, .ref o3, .ref o4, .ref o5, .ref o6, .int (nI n), .int (nI k), .int wd, .int (bb wt)])), (o1, .inl (cI, 8, .inl xs)), (o2, .inl (cI, 8, .inl ys)), (o3, .inl (cI, 8, .inl rf)), (o4, .inl (cI, 8, .inl bo)), (o5, .inl (cI, 4, .inl pr)), (o6, .inl (cI, 4, .inl bu))]) ⟨hx, hb, hml, hown, hts⟩ (c_X8_roofedWith l D cI cZ cO H.size o0 o1 o2 o3 o4 o5 o6 xs ys rf bo pr bu n k wd wt (rf i) (by first | assumption | omega | rfl)) (cwV 1 hts gX8_unlawfulPairs_X8_roofedWith rfl rfl rfl (by decide +kernel) ⟨Nat.le_of_ble_eq_true rfl, Nat.le_of_ble_eq_true rfl⟩) xGd0 xGd0 (fun _ _ _ _ => trivial) hG hP hD hK hS hA [0, 1, 2, 3, 4, 5, 6] [] [0, 1, 2, 3, 4, 5, 6] rfl rfl rfl rfl rfl 0 rfl rfl rfl (fun _ => rfl) rfl rfl hl.1 (Nat.le_of_ble_eq_true rfl) dX8_unlawfulPairs_37 ⟨Nat.zero_le _, Nat.zero_le _⟩ (fun r u H locs hw hP hD hS => ?_)
          obtain ⟨rfl, hw⟩ := hw
          have hw_37 : True := hw
          have hP : va_P D vwCl [(o0, .inr (7, [.ref o1, .ref o2, .ref o3, .ref o4, .ref o5, .ref o6, .int (nI n), .int (nI k), .int wd, .int (bb wt)])), (o1, .inl (cI, 8, .inl xs)), (o2, .inl (cI, 8, .inl ys)), (o3, .inl (cI, 8, .inl rf)), (o4, .inl (cI, 8, .inl bo)), (o5, .inl (cI, 4, .inl pr)), (o6, .inl (cI, 4, .inl bu))] H := hP
          have hD : va_D A [(o0, .inr (7, [.ref o1, .ref o2, .ref o3, .ref o4, .ref o5, .ref o6, .int (nI n), .int (nI k), .int wd, .int (bb wt)])), (o1, .inl (cI, 8, .inl xs)), (o2, .inl (cI, 8, .inl ys)), (o3, .inl (cI, 8, .inl rf)), (o4, .inl (cI, 8, .inl bo)), (o5, .inl (cI, 4, .inl pr)), (o6, .inl (cI, 4, .inl bu))] := hD
          refine lv_iand hx hb dX8_unlawfulPairs_40 ?_
          refine lv_topr (x' := nI ((mkM (fun g => nearb xs ys i sp g) n) &&& (mkM (fun g => decide (rf g = (rf i))) n))) (fa_and _ _) ?_
          refine xcS_i (As := [.int (nI ((mkM (fun g => nearb xs ys i sp g) n) &&& (mkM (fun g => decide (rf g = (rf i))) n)))]) (rest := [.int (nI b)]) (wc := []) (wr := [(o0, .inr (7, [.ref o1, .ref o2, .ref o3, .ref o4, .ref o5, .ref o6, .int (nI n), .int (nI k), .int wd, .int (bb wt)])), (o1, .inl (cI, 8, .inl xs)), (o2, .inl (cI, 8, .inl ys)), (o3, .inl (cI, 8, .inl rf)), (o4, .inl (cI, 8, .inl bo)), (o5, .inl (cI, 4, .inl pr)), (o6, .inl (cI, 4, .inl bu))]) (w3 := fun (u : Unit) => [(o0, .inr (7, [.ref o1, .ref o2, .ref o3, .ref o4, .ref o5, .ref o6, .int (nI n), .int (nI k), .int wd, .int (bb wt)])), (o1, .inl (cI, 8, .inl xs)), (o2, .inl (cI, 8, .inl ys)), (o3, .inl (cI, 8, .inl rf)), (o4, .inl (cI, 8, .inl bo)), (o5, .inl (cI, 4, .inl pr)), (o6, .inl (cI, 4, .inl bu))]) ⟨hx, hb, hml, hown, hts⟩ (c_J6_bitCount_0f7a4 l D cI cZ cO H.size ((mkM (fun g => nearb xs ys i sp g) n) &&& (mkM (fun g => decide (rf g = (rf i))) n)) (and_256 (mkM_256 hn))) (va_cwS 1 hts gX8_unlawfulPairs_J6_bitCount_0f7a4 rfl rfl rfl (by decide +kernel) ⟨Nat.le_of_ble_eq_true rfl, Nat.le_of_ble_eq_true rfl⟩) xGd0 xGd0 (fun _ _ _ _ => trivial) hG hP hD hK hS hA [] [0, 1, 2, 3, 4, 5, 6] [0, 1, 2, 3, 4, 5, 6] rfl rfl rfl rfl rfl rfl (fun _ => rfl) rfl rfl hl.1 (Nat.le_of_ble_eq_true rfl) dX8_unlawfulPairs_41 ⟨Nat.zero_le _, Nat.zero_le _⟩ (fun r u H locs hw hP hD hS => ?_)
          obtain ⟨rfl, hw⟩ := hw
          have hw_41 : True := hw
          have hP : va_P D vwCl [(o0, .inr (7, [.ref o1, .ref o2, .ref o3, .ref o4, .ref o5, .ref o6, .int (nI n), .int (nI k), .int wd, .int (bb wt)])), (o1, .inl (cI, 8, .inl xs)), (o2, .inl (cI, 8, .inl ys)), (o3, .inl (cI, 8, .inl rf)), (o4, .inl (cI, 8, .inl bo)), (o5, .inl (cI, 4, .inl pr)), (o6, .inl (cI, 4, .inl bu))] H := hP
          have hD : va_D A [(o0, .inr (7, [.ref o1, .ref o2, .ref o3, .ref o4, .ref o5, .ref o6, .int (nI n), .int (nI k), .int wd, .int (bb wt)])), (o1, .inl (cI, 8, .inl xs)), (o2, .inl (cI, 8, .inl ys)), (o3, .inl (cI, 8, .inl rf)), (o4, .inl (cI, 8, .inl bo)), (o5, .inl (cI, 4, .inl pr)), (o6, .inl (cI, 4, .inl bu))] := hD
          refine lv_iadd hx hb dX8_unlawfulPairs_44 ?_
          refine lv_topr (x' := nI (b + (popc ((mkM (fun g => nearb xs ys i sp g) n) &&& (mkM (fun g => decide (rf g = (rf i))) n))))) (nI_add b (popc ((mkM (fun g => nearb xs ys i sp g) n) &&& (mkM (fun g => decide (rf g = (rf i))) n)))) ?_
          refine lv_istore_n (lv' := [(2, .int (nI (b + (popc ((mkM (fun g => nearb xs ys i sp g) n) &&& (mkM (fun g => decide (rf g = (rf i))) n)))))), (3, .int (nI i)), (0, .ref o0), (1, .int sp)]) hx hb dX8_unlawfulPairs_45 rfl hl (by decide) rfl (fun ls hl => ?_)
          refine lv_iinc (v := nI (i + 1)) (lv' := [(3, .int (nI (i + 1))), (2, .int (nI (b + (popc ((mkM (fun g => nearb xs ys i sp g) n) &&& (mkM (fun g => decide (rf g = (rf i))) n)))))), (0, .ref o0), (1, .int sp)]) hx hb dX8_unlawfulPairs_46 hl (k := 1) rfl (by first | rfl | exact nI_add _ 1 | (simp only [] ; exact nI_add _ 1)) (by decide) rfl (fun ls hl => ?_)
          refine lv_goto (tgt := 4) hx hb dX8_unlawfulPairs_49 (by decide) ?_
          exact ih_4 (b + (popc ((mkM (fun g => nearb xs ys i sp g) n) &&& (mkM (fun g => decide (rf g = (rf i))) n)))) (i + 1) (by omega) (by rw [sumN, hbm, unl, if_neg c_20]) (by omega) _ _ hP hD hS _ (lv_sub hl [0, 1, 2, 3] rfl)
  exact L_4 (Nat.succ (n - 0)) 0 0 (Nat.zero_le _) (rfl) (Nat.lt_succ_self _) _ _ hP hD hS _ (lv_sub hl [0, 1, 2, 3] rfl)

set_option maxHeartbeats 4000000 in
set_option maxRecDepth 100000 in
theorem c_X8_raze (l : Launch) (D : va_G) (cI cZ cO : ClassId) (sz : Nat) (o0 : Nat) (o1 : Nat) (o2 : Nat) (o3 : Nat) (o4 : Nat) (o5 : Nat) (o6 : Nat) (xs : Nat → Int32) (ys : Nat → Int32) (rf : Nat → Int32) (bo : Nat → Int32) (pr : Nat → Int32) (bu : Nat → Int32) (n : Nat) (k : Nat) (wd : Int32) (wt : Bool)  : xMv l yX8_raze wsX8_raze (0) (0) D (TY cI cZ cO) xG0 [.ref o0] [(o0, .inr (7, [.ref o1, .ref o2, .ref o3, .ref o4, .ref o5, .ref o6, .int (nI n), .int (nI k), .int wd, .int (bb wt)])), (o1, .inl (cI, 8, .inl xs)), (o2, .inl (cI, 8, .inl ys)), (o3, .inl (cI, 8, .inl rf)), (o4, .inl (cI, 8, .inl bo)), (o5, .inl (cI, 4, .inl pr)), (o6, .inl (cI, 4, .inl bu))] sz (fun (u : Unit) => (True)) (fun (u : Unit) => [(o0, .inr (7, [.ref o1, .ref o2, .ref o3, .ref o4, .ref o5, .ref o6, .int (nI 0), .int (nI 0), .int (0 : Int32), .int (bb false)])), (o1, .inl (cI, 8, .inl xs)), (o2, .inl (cI, 8, .inl ys)), (o3, .inl (cI, 8, .inl rf)), (o4, .inl (cI, 8, .inl bo)), (o5, .inl (cI, 4, .inl pr)), (o6, .inl (cI, 4, .inl bu))]) := by
  refine xMv.of (cc := cX8_raze) (maxL := 1) (by decide +kernel) rfl (Nat.le_of_ble_eq_true rfl) ?_
  intro p e s m below meth c A Q H hx hb hml hown hts hA hP hD hK hS hG hret ls hl
  have hown : s.vm.findClass RX8 = some m.cls := hown
  have hP : va_P D vwCl [(o0, .inr (7, [.ref o1, .ref o2, .ref o3, .ref o4, .ref o5, .ref o6, .int (nI n), .int (nI k), .int wd, .int (bb wt)])), (o1, .inl (cI, 8, .inl xs)), (o2, .inl (cI, 8, .inl ys)), (o3, .inl (cI, 8, .inl rf)), (o4, .inl (cI, 8, .inl bo)), (o5, .inl (cI, 4, .inl pr)), (o6, .inl (cI, 4, .inl bu))] H := hP
  have hD : va_D A [(o0, .inr (7, [.ref o1, .ref o2, .ref o3, .ref o4, .ref o5, .ref o6, .int (nI n), .int (nI k), .int wd, .int (bb wt)])), (o1, .inl (cI, 8, .inl xs)), (o2, .inl (cI, 8, .inl ys)), (o3, .inl (cI, 8, .inl rf)), (o4, .inl (cI, 8, .inl bo)), (o5, .inl (cI, 4, .inl pr)), (o6, .inl (cI, 4, .inl bu))] := hD
  have hl : lv_has ls 1 [(0, .ref o0)] := hl
  have w_0 := hts (.fieldLink RX8 30 "UnlikeRoofs$Town" "houses" "I") (List.mem_of_getElem? (i := 1) (by rfl))
  have w_1 := hts (.fieldLink RX8 34 "UnlikeRoofs$Town" "sorts" "I") (List.mem_of_getElem? (i := 2) (by rfl))
  have w_2 := hts (.fieldLink RX8 37 "UnlikeRoofs$Town" "blowing" "I") (List.mem_of_getElem? (i := 3) (by rfl))
  have w_3 := hts (.fieldLink RX8 40 "UnlikeRoofs$Town" "windTold" "Z") (List.mem_of_getElem? (i := 4) (by rfl))
  have hin_X8 : ∀ w ∈ wsX80, w ∈ wsX8_raze := fun _ h => List.mem_cons_of_mem _ (List.mem_append_right _ h)
  have _h0 : True := trivial
  refine lv_aload_n hx hb dX8_raze_0 rfl (lv_at hl 0 rfl) ?_
  refine lv_iconst (v := (0 : Int32)) hx hb dX8_raze_1 (by decide) ?_
  refine va_put (D := D) (ci := 7) (v := .int (0 : Int32)) (ty := .int) (C := RX8) (T := TX8) (N := 10) hx hb hts hin_X8 tyX8 tyX8_ok nmX8 hown hK hP hD hS 0 rfl rfl 6 (by decide) w_0 (fun _ h9 => h9) rfl (by decide +kernel) rfl rfl (Nat.le_of_ble_eq_true rfl) dX8_raze_2 (fun H locs hP hD hS => ?_)
  have hP : va_P D vwCl [(o0, .inr (7, [.ref o1, .ref o2, .ref o3, .ref o4, .ref o5, .ref o6, .int (0 : Int32), .int (nI k), .int wd, .int (bb wt)])), (o1, .inl (cI, 8, .inl xs)), (o2, .inl (cI, 8, .inl ys)), (o3, .inl (cI, 8, .inl rf)), (o4, .inl (cI, 8, .inl bo)), (o5, .inl (cI, 4, .inl pr)), (o6, .inl (cI, 4, .inl bu))] H := hP
  have hD : va_D A [(o0, .inr (7, [.ref o1, .ref o2, .ref o3, .ref o4, .ref o5, .ref o6, .int (0 : Int32), .int (nI k), .int wd, .int (bb wt)])), (o1, .inl (cI, 8, .inl xs)), (o2, .inl (cI, 8, .inl ys)), (o3, .inl (cI, 8, .inl rf)), (o4, .inl (cI, 8, .inl bo)), (o5, .inl (cI, 4, .inl pr)), (o6, .inl (cI, 4, .inl bu))] := hD
  refine lv_aload_n hx hb dX8_raze_5 rfl (lv_at hl 0 rfl) ?_
  refine lv_iconst (v := (0 : Int32)) hx hb dX8_raze_6 (by decide) ?_
  refine va_put (D := D) (ci := 7) (v := .int (0 : Int32)) (ty := .int) (C := RX8) (T := TX8) (N := 10) hx hb hts hin_X8 tyX8 tyX8_ok nmX8 hown hK hP hD hS 0 rfl rfl 7 (by decide) w_1 (fun _ h9 => h9) rfl (by decide +kernel) rfl rfl (Nat.le_of_ble_eq_true rfl) dX8_raze_7 (fun H locs hP hD hS => ?_)
  have hP : va_P D vwCl [(o0, .inr (7, [.ref o1, .ref o2, .ref o3, .ref o4, .ref o5, .ref o6, .int (0 : Int32), .int (0 : Int32), .int wd, .int (bb wt)])), (o1, .inl (cI, 8, .inl xs)), (o2, .inl (cI, 8, .inl ys)), (o3, .inl (cI, 8, .inl rf)), (o4, .inl (cI, 8, .inl bo)), (o5, .inl (cI, 4, .inl pr)), (o6, .inl (cI, 4, .inl bu))] H := hP
  have hD : va_D A [(o0, .inr (7, [.ref o1, .ref o2, .ref o3, .ref o4, .ref o5, .ref o6, .int (0 : Int32), .int (0 : Int32), .int wd, .int (bb wt)])), (o1, .inl (cI, 8, .inl xs)), (o2, .inl (cI, 8, .inl ys)), (o3, .inl (cI, 8, .inl rf)), (o4, .inl (cI, 8, .inl bo)), (o5, .inl (cI, 4, .inl pr)), (o6, .inl (cI, 4, .inl bu))] := hD
  refine lv_aload_n hx hb dX8_raze_10 rfl (lv_at hl 0 rfl) ?_
  refine lv_iconst (v := (0 : Int32)) hx hb dX8_raze_11 (by decide) ?_
  refine va_put (D := D) (ci := 7) (v := .int (0 : Int32)) (ty := .int) (C := RX8) (T := TX8) (N := 10) hx hb hts hin_X8 tyX8 tyX8_ok nmX8 hown hK hP hD hS 0 rfl rfl 8 (by decide) w_2 (fun _ h9 => h9) rfl (by decide +kernel) rfl rfl (Nat.le_of_ble_eq_true rfl) dX8_raze_12 (fun H locs hP hD hS => ?_)
  have hP : va_P D vwCl [(o0, .inr (7, [.ref o1, .ref o2, .ref o3, .ref o4, .ref o5, .ref o6, .int (0 : Int32), .int (0 : Int32), .int (0 : Int32), .int (bb wt)])), (o1, .inl (cI, 8, .inl xs)), (o2, .inl (cI, 8, .inl ys)), (o3, .inl (cI, 8, .inl rf)), (o4, .inl (cI, 8, .inl bo)), (o5, .inl (cI, 4, .inl pr)), (o6, .inl (cI, 4, .inl bu))] H := hP
  have hD : va_D A [(o0, .inr (7, [.ref o1, .ref o2, .ref o3, .ref o4, .ref o5, .ref o6, .int (0 : Int32), .int (0 : Int32), .int (0 : Int32), .int (bb wt)])), (o1, .inl (cI, 8, .inl xs)), (o2, .inl (cI, 8, .inl ys)), (o3, .inl (cI, 8, .inl rf)), (o4, .inl (cI, 8, .inl bo)), (o5, .inl (cI, 4, .inl pr)), (o6, .inl (cI, 4, .inl bu))] := hD
  refine lv_aload_n hx hb dX8_raze_15 rfl (lv_at hl 0 rfl) ?_
  refine lv_iconst (v := (0 : Int32)) hx hb dX8_raze_16 (by decide) ?_
  refine va_put (D := D) (ci := 7) (v := .int (0 : Int32)) (ty := .boolean) (C := RX8) (T := TX8) (N := 10) hx hb hts hin_X8 tyX8 tyX8_ok nmX8 hown hK hP hD hS 0 rfl rfl 9 (by decide) w_3 (fun _ h9 => h9) rfl (by decide +kernel) rfl rfl (Nat.le_of_ble_eq_true rfl) dX8_raze_17 (fun H locs hP hD hS => ?_)
  have hP : va_P D vwCl [(o0, .inr (7, [.ref o1, .ref o2, .ref o3, .ref o4, .ref o5, .ref o6, .int (0 : Int32), .int (0 : Int32), .int (0 : Int32), .int (0 : Int32)])), (o1, .inl (cI, 8, .inl xs)), (o2, .inl (cI, 8, .inl ys)), (o3, .inl (cI, 8, .inl rf)), (o4, .inl (cI, 8, .inl bo)), (o5, .inl (cI, 4, .inl pr)), (o6, .inl (cI, 4, .inl bu))] H := hP
  have hD : va_D A [(o0, .inr (7, [.ref o1, .ref o2, .ref o3, .ref o4, .ref o5, .ref o6, .int (0 : Int32), .int (0 : Int32), .int (0 : Int32), .int (0 : Int32)])), (o1, .inl (cI, 8, .inl xs)), (o2, .inl (cI, 8, .inl ys)), (o3, .inl (cI, 8, .inl rf)), (o4, .inl (cI, 8, .inl bo)), (o5, .inl (cI, 4, .inl pr)), (o6, .inl (cI, 4, .inl bu))] := hD
  exact hret () _ _ _ _ (trivial) hP hD hS dX8_raze_20

set_option maxHeartbeats 4000000 in
set_option maxRecDepth 100000 in
theorem c_X8_addSort (l : Launch) (D : va_G) (cI cZ cO : ClassId) (sz : Nat) (o0 : Nat) (o1 : Nat) (o2 : Nat) (o3 : Nat) (o4 : Nat) (o5 : Nat) (o6 : Nat) (xs : Nat → Int32) (ys : Nat → Int32) (rf : Nat → Int32) (bo : Nat → Int32) (pr : Nat → Int32) (bu : Nat → Int32) (n : Nat) (k : Nat) (wd : Int32) (wt : Bool) (p_ : Int32) (b_ : Int32) (hk : k < 4) : xMv l yX8_addSort wsX8_addSort (0) (0) D (TY cI cZ cO) xG0 [.ref o0, .int p_, .int b_] [(o0, .inr (7, [.ref o1, .ref o2, .ref o3, .ref o4, .ref o5, .ref o6, .int (nI n), .int (nI k), .int wd, .int (bb wt)])), (o1, .inl (cI, 8, .inl xs)), (o2, .inl (cI, 8, .inl ys)), (o3, .inl (cI, 8, .inl rf)), (o4, .inl (cI, 8, .inl bo)), (o5, .inl (cI, 4, .inl pr)), (o6, .inl (cI, 4, .inl bu))] sz (fun (u : Unit) => (True)) (fun (u : Unit) => [(o0, .inr (7, [.ref o1, .ref o2, .ref o3, .ref o4, .ref o5, .ref o6, .int (nI n), .int (nI (k + 1)), .int wd, .int (bb wt)])), (o1, .inl (cI, 8, .inl xs)), (o2, .inl (cI, 8, .inl ys)), (o3, .inl (cI, 8, .inl rf)), (o4, .inl (cI, 8, .inl bo)), (o5, .inl (cI, 4, .inl (upd pr k p_))), (o6, .inl (cI, 4, .inl (upd bu k b_)))]) := by
  refine xMv.of (cc := cX8_addSort) (maxL := 3) (by decide +kernel) rfl (Nat.le_of_ble_eq_true rfl) ?_
  intro p e s m below meth c A Q H hx hb hml hown hts hA hP hD hK hS hG hret ls hl
  have hown : s.vm.findClass RX8 = some m.cls := hown
  have hP : va_P D vwCl [(o0, .inr (7, [.ref o1, .ref o2, .ref o3, .ref o4, .ref o5, .ref o6, .int (nI n), .int (nI k), .int wd, .int (bb wt)])), (o1, .inl (cI, 8, .inl xs)), (o2, .inl (cI, 8, .inl ys)), (o3, .inl (cI, 8, .inl rf)), (o4, .inl (cI, 8, .inl bo)), (o5, .inl (cI, 4, .inl pr)), (o6, .inl (cI, 4, .inl bu))] H := hP
  have hD : va_D A [(o0, .inr (7, [.ref o1, .ref o2, .ref o3, .ref o4, .ref o5, .ref o6, .int (nI n), .int (nI k), .int wd, .int (bb wt)])), (o1, .inl (cI, 8, .inl xs)), (o2, .inl (cI, 8, .inl ys)), (o3, .inl (cI, 8, .inl rf)), (o4, .inl (cI, 8, .inl bo)), (o5, .inl (cI, 4, .inl pr)), (o6, .inl (cI, 4, .inl bu))] := hD
  have hl : lv_has ls 3 [(0, .ref o0), (1, .int p_), (2, .int b_)] := hl
  have w_0 := hts (.fieldLink RX8 34 "UnlikeRoofs$Town" "sorts" "I") (List.mem_of_getElem? (i := 1) (by rfl))
  have w_1 := hts (.fieldLink RX8 24 "UnlikeRoofs$Town" "prices" "[I") (List.mem_of_getElem? (i := 2) (by rfl))
  have w_2 := hts (.fieldLink RX8 27 "UnlikeRoofs$Town" "burns" "[I") (List.mem_of_getElem? (i := 3) (by rfl))
  have hin_X8 : ∀ w ∈ wsX80, w ∈ wsX8_addSort := fun _ h => List.mem_cons_of_mem _ (List.mem_append_right _ h)
  have _h0 : True := trivial
  refine lv_aload_n hx hb dX8_addSort_0 rfl (lv_at hl 0 rfl) ?_
  refine va_get (D := D) (ci := 7) (v := .int (nI k)) (C := RX8) (T := TX8) (N := 10) hx hb hts hin_X8 hown hK hP 0 rfl rfl 7 (by decide) w_0 (fun _ h9 => h9) rfl dX8_addSort_1 ?_
  refine lv_iconst (v := (4 : Int32)) hx hb dX8_addSort_4 (by decide) ?_
  refine lv_icmp_ge (tgt := 38) hx hb dX8_addSort_5 (by decide) (fun c_5 => ?_) (fun c_5 => ?_)
  ·
    have n_5 : 4 ≤ k := (nI_leI (show 4 < 2147483648 by omega) (show k < 2147483648 by omega)).1 c_5
    exact absurd n_5 (by omega)
  ·
    have n_5 : k < 4 := Nat.lt_of_not_le (fun q => c_5 ((nI_leI (show 4 < 2147483648 by omega) (show k < 2147483648 by omega)).2 q))
    refine lv_aload_n hx hb dX8_addSort_8 rfl (lv_at hl 0 rfl) ?_
    refine va_get (D := D) (ci := 7) (v := .ref o5) (C := RX8) (T := TX8) (N := 10) hx hb hts hin_X8 hown hK hP 0 rfl rfl 4 (by decide) w_1 (fun _ h9 => h9) rfl dX8_addSort_9 ?_
    refine lv_aload_n hx hb dX8_addSort_12 rfl (lv_at hl 0 rfl) ?_
    refine va_get (D := D) (ci := 7) (v := .int (nI k)) (C := RX8) (T := TX8) (N := 10) hx hb hts hin_X8 hown hK hP 0 rfl rfl 7 (by decide) w_0 (fun _ h9 => h9) rfl dX8_addSort_13 ?_
    refine lv_iload_n hx hb dX8_addSort_16 rfl (lv_at hl 1 rfl) ?_
    refine x_iast hx hb hK hP hD hS 5 0 rfl rfl (j := k) (by omega) (by decide) dX8_addSort_17 (fun H locs hP hD hS => ?_)
    have hP : va_P D vwCl [(o0, .inr (7, [.ref o1, .ref o2, .ref o3, .ref o4, .ref o5, .ref o6, .int (nI n), .int (nI k), .int wd, .int (bb wt)])), (o1, .inl (cI, 8, .inl xs)), (o2, .inl (cI, 8, .inl ys)), (o3, .inl (cI, 8, .inl rf)), (o4, .inl (cI, 8, .inl bo)), (o5, .inl (cI, 4, .inl (upd pr k p_))), (o6, .inl (cI, 4, .inl bu))] H := hP
    have hD : va_D A [(o0, .inr (7, [.ref o1, .ref o2, .ref o3, .ref o4, .ref o5, .ref o6, .int (nI n), .int (nI k), .int wd, .int (bb wt)])), (o1, .inl (cI, 8, .inl xs)), (o2, .inl (cI, 8, .inl ys)), (o3, .inl (cI, 8, .inl rf)), (o4, .inl (cI, 8, .inl bo)), (o5, .inl (cI, 4, .inl (upd pr k p_))), (o6, .inl (cI, 4, .inl bu))] := hD
    refine lv_aload_n hx hb dX8_addSort_18 rfl (lv_at hl 0 rfl) ?_
    refine va_get (D := D) (ci := 7) (v := .ref o6) (C := RX8) (T := TX8) (N := 10) hx hb hts hin_X8 hown hK hP 0 rfl rfl 5 (by decide) w_2 (fun _ h9 => h9) rfl dX8_addSort_19 ?_
    refine lv_aload_n hx hb dX8_addSort_22 rfl (lv_at hl 0 rfl) ?_
    refine va_get (D := D) (ci := 7) (v := .int (nI k)) (C := RX8) (T := TX8) (N := 10) hx hb hts hin_X8 hown hK hP 0 rfl rfl 7 (by decide) w_0 (fun _ h9 => h9) rfl dX8_addSort_23 ?_
    refine lv_iload_n hx hb dX8_addSort_26 rfl (lv_at hl 2 rfl) ?_
    refine x_iast hx hb hK hP hD hS 6 0 rfl rfl (j := k) (by omega) (by decide) dX8_addSort_27 (fun H locs hP hD hS => ?_)
    have hP : va_P D vwCl [(o0, .inr (7, [.ref o1, .ref o2, .ref o3, .ref o4, .ref o5, .ref o6, .int (nI n), .int (nI k), .int wd, .int (bb wt)])), (o1, .inl (cI, 8, .inl xs)), (o2, .inl (cI, 8, .inl ys)), (o3, .inl (cI, 8, .inl rf)), (o4, .inl (cI, 8, .inl bo)), (o5, .inl (cI, 4, .inl (upd pr k p_))), (o6, .inl (cI, 4, .inl (upd bu k b_)))] H := hP
    have hD : va_D A [(o0, .inr (7, [.ref o1, .ref o2, .ref o3, .ref o4, .ref o5, .ref o6, .int (nI n), .int (nI k), .int wd, .int (bb wt)])), (o1, .inl (cI, 8, .inl xs)), (o2, .inl (cI, 8, .inl ys)), (o3, .inl (cI, 8, .inl rf)), (o4, .inl (cI, 8, .inl bo)), (o5, .inl (cI, 4, .inl (upd pr k p_))), (o6, .inl (cI, 4, .inl (upd bu k b_)))] := hD
    refine lv_aload_n hx hb dX8_addSort_28 rfl (lv_at hl 0 rfl) ?_
    refine lv_dup hx hb dX8_addSort_29 rfl ?_
    refine va_get (D := D) (ci := 7) (v := .int (nI k)) (C := RX8) (T := TX8) (N := 10) hx hb hts hin_X8 hown hK hP 0 rfl rfl 7 (by decide) w_0 (fun _ h9 => h9) rfl dX8_addSort_30 ?_
    refine lv_iconst (v := (1 : Int32)) hx hb dX8_addSort_33 (by decide) ?_
    refine lv_iadd hx hb dX8_addSort_34 ?_
    refine lv_topr (x' := nI (k + 1)) (nI_add k 1) ?_
    refine va_put (D := D) (ci := 7) (v := .int (nI (k + 1))) (ty := .int) (C := RX8) (T := TX8) (N := 10) hx hb hts hin_X8 tyX8 tyX8_ok nmX8 hown hK hP hD hS 0 rfl rfl 7 (by decide) w_0 (fun _ h9 => h9) rfl (by decide +kernel) rfl rfl (Nat.le_of_ble_eq_true rfl) dX8_addSort_35 (fun H locs hP hD hS => ?_)
    have hP : va_P D vwCl [(o0, .inr (7, [.ref o1, .ref o2, .ref o3, .ref o4, .ref o5, .ref o6, .int (nI n), .int (nI (k + 1)), .int wd, .int (bb wt)])), (o1, .inl (cI, 8, .inl xs)), (o2, .inl (cI, 8, .inl ys)), (o3, .inl (cI, 8, .inl rf)), (o4, .inl (cI, 8, .inl bo)), (o5, .inl (cI, 4, .inl (upd pr k p_))), (o6, .inl (cI, 4, .inl (upd bu k b_)))] H := hP
    have hD : va_D A [(o0, .inr (7, [.ref o1, .ref o2, .ref o3, .ref o4, .ref o5, .ref o6, .int (nI n), .int (nI (k + 1)), .int wd, .int (bb wt)])), (o1, .inl (cI, 8, .inl xs)), (o2, .inl (cI, 8, .inl ys)), (o3, .inl (cI, 8, .inl rf)), (o4, .inl (cI, 8, .inl bo)), (o5, .inl (cI, 4, .inl (upd pr k p_))), (o6, .inl (cI, 4, .inl (upd bu k b_)))] := hD
    exact hret () _ _ _ _ (trivial) hP hD hS dX8_addSort_38

set_option maxHeartbeats 4000000 in
set_option maxRecDepth 100000 in
theorem c_X8_addHouse (l : Launch) (D : va_G) (cI cZ cO : ClassId) (sz : Nat) (o0 : Nat) (o1 : Nat) (o2 : Nat) (o3 : Nat) (o4 : Nat) (o5 : Nat) (o6 : Nat) (xs : Nat → Int32) (ys : Nat → Int32) (rf : Nat → Int32) (bo : Nat → Int32) (pr : Nat → Int32) (bu : Nat → Int32) (n : Nat) (k : Nat) (wd : Int32) (wt : Bool) (x : Int32) (y : Int32) (hn : n < 8) : xMv l yX8_addHouse wsX8_addHouse (0) (0) D (TY cI cZ cO) xG0 [.ref o0, .int x, .int y] [(o0, .inr (7, [.ref o1, .ref o2, .ref o3, .ref o4, .ref o5, .ref o6, .int (nI n), .int (nI k), .int wd, .int (bb wt)])), (o1, .inl (cI, 8, .inl xs)), (o2, .inl (cI, 8, .inl ys)), (o3, .inl (cI, 8, .inl rf)), (o4, .inl (cI, 8, .inl bo)), (o5, .inl (cI, 4, .inl pr)), (o6, .inl (cI, 4, .inl bu))] sz (fun (u : Unit) => (True)) (fun (u : Unit) => [(o0, .inr (7, [.ref o1, .ref o2, .ref o3, .ref o4, .ref o5, .ref o6, .int (nI (n + 1)), .int (nI k), .int wd, .int (bb wt)])), (o1, .inl (cI, 8, .inl (upd xs n x))), (o2, .inl (cI, 8, .inl (upd ys n y))), (o3, .inl (cI, 8, .inl (upd rf n (-9)))), (o4, .inl (cI, 8, .inl (upd bo n (-9)))), (o5, .inl (cI, 4, .inl pr)), (o6, .inl (cI, 4, .inl bu))]) := by
  refine xMv.of (cc := cX8_addHouse) (maxL := 3) (by decide +kernel) rfl (Nat.le_of_ble_eq_true rfl) ?_
  intro p e s m below meth c A Q H hx hb hml hown hts hA hP hD hK hS hG hret ls hl
  have hown : s.vm.findClass RX8 = some m.cls := hown
  have hP : va_P D vwCl [(o0, .inr (7, [.ref o1, .ref o2, .ref o3, .ref o4, .ref o5, .ref o6, .int (nI n), .int (nI k), .int wd, .int (bb wt)])), (o1, .inl (cI, 8, .inl xs)), (o2, .inl (cI, 8, .inl ys)), (o3, .inl (cI, 8, .inl rf)), (o4, .inl (cI, 8, .inl bo)), (o5, .inl (cI, 4, .inl pr)), (o6, .inl (cI, 4, .inl bu))] H := hP
  have hD : va_D A [(o0, .inr (7, [.ref o1, .ref o2, .ref o3, .ref o4, .ref o5, .ref o6, .int (nI n), .int (nI k), .int wd, .int (bb wt)])), (o1, .inl (cI, 8, .inl xs)), (o2, .inl (cI, 8, .inl ys)), (o3, .inl (cI, 8, .inl rf)), (o4, .inl (cI, 8, .inl bo)), (o5, .inl (cI, 4, .inl pr)), (o6, .inl (cI, 4, .inl bu))] := hD
  have hl : lv_has ls 3 [(0, .ref o0), (1, .int x), (2, .int y)] := hl
  have w_0 := hts (.fieldLink RX8 30 "UnlikeRoofs$Town" "houses" "I") (List.mem_of_getElem? (i := 1) (by rfl))
  have w_1 := hts (.fieldLink RX8 9 "UnlikeRoofs$Town" "xs" "[I") (List.mem_of_getElem? (i := 2) (by rfl))
  have w_2 := hts (.fieldLink RX8 15 "UnlikeRoofs$Town" "ys" "[I") (List.mem_of_getElem? (i := 3) (by rfl))
  have w_3 := hts (.fieldLink RX8 18 "UnlikeRoofs$Town" "roofs" "[I") (List.mem_of_getElem? (i := 4) (by rfl))
  have w_4 := hts (.fieldLink RX8 21 "UnlikeRoofs$Town" "bounds" "[I") (List.mem_of_getElem? (i := 5) (by rfl))
  have hin_X8 : ∀ w ∈ wsX80, w ∈ wsX8_addHouse := fun _ h => List.mem_cons_of_mem _ (List.mem_append_right _ h)
  have _h0 : True := trivial
  refine lv_aload_n hx hb dX8_addHouse_0 rfl (lv_at hl 0 rfl) ?_
  refine va_get (D := D) (ci := 7) (v := .int (nI n)) (C := RX8) (T := TX8) (N := 10) hx hb hts hin_X8 hown hK hP 0 rfl rfl 6 (by decide) w_0 (fun _ h9 => h9) rfl dX8_addHouse_1 ?_
  refine lv_bipush (v := (8 : Int32)) hx hb dX8_addHouse_4 (by decide) ?_
  refine lv_icmp_ge (tgt := 61) hx hb dX8_addHouse_6 (by decide) (fun c_6 => ?_) (fun c_6 => ?_)
  ·
    have n_6 : 8 ≤ n := (nI_leI (show 8 < 2147483648 by omega) (show n < 2147483648 by omega)).1 c_6
    exact absurd n_6 (by omega)
  ·
    have n_6 : n < 8 := Nat.lt_of_not_le (fun q => c_6 ((nI_leI (show 8 < 2147483648 by omega) (show n < 2147483648 by omega)).2 q))
    refine lv_aload_n hx hb dX8_addHouse_9 rfl (lv_at hl 0 rfl) ?_
    refine va_get (D := D) (ci := 7) (v := .ref o1) (C := RX8) (T := TX8) (N := 10) hx hb hts hin_X8 hown hK hP 0 rfl rfl 0 (by decide) w_1 (fun _ h9 => h9) rfl dX8_addHouse_10 ?_
    refine lv_aload_n hx hb dX8_addHouse_13 rfl (lv_at hl 0 rfl) ?_
    refine va_get (D := D) (ci := 7) (v := .int (nI n)) (C := RX8) (T := TX8) (N := 10) hx hb hts hin_X8 hown hK hP 0 rfl rfl 6 (by decide) w_0 (fun _ h9 => h9) rfl dX8_addHouse_14 ?_
    refine lv_iload_n hx hb dX8_addHouse_17 rfl (lv_at hl 1 rfl) ?_
    refine x_iast hx hb hK hP hD hS 1 0 rfl rfl (j := n) (by omega) (by decide) dX8_addHouse_18 (fun H locs hP hD hS => ?_)
    have hP : va_P D vwCl [(o0, .inr (7, [.ref o1, .ref o2, .ref o3, .ref o4, .ref o5, .ref o6, .int (nI n), .int (nI k), .int wd, .int (bb wt)])), (o1, .inl (cI, 8, .inl (upd xs n x))), (o2, .inl (cI, 8, .inl ys)), (o3, .inl (cI, 8, .inl rf)), (o4, .inl (cI, 8, .inl bo)), (o5, .inl (cI, 4, .inl pr)), (o6, .inl (cI, 4, .inl bu))] H := hP
    have hD : va_D A [(o0, .inr (7, [.ref o1, .ref o2, .ref o3, .ref o4, .ref o5, .ref o6, .int (nI n), .int (nI k), .int wd, .int (bb wt)])), (o1, .inl (cI, 8, .inl (upd xs n x))), (o2, .inl (cI, 8, .inl ys)), (o3, .inl (cI, 8, .inl rf)), (o4, .inl (cI, 8, .inl bo)), (o5, .inl (cI, 4, .inl pr)), (o6, .inl (cI, 4, .inl bu))] := hD
    refine lv_aload_n hx hb dX8_addHouse_19 rfl (lv_at hl 0 rfl) ?_
    refine va_get (D := D) (ci := 7) (v := .ref o2) (C := RX8) (T := TX8) (N := 10) hx hb hts hin_X8 hown hK hP 0 rfl rfl 1 (by decide) w_2 (fun _ h9 => h9) rfl dX8_addHouse_20 ?_
    refine lv_aload_n hx hb dX8_addHouse_23 rfl (lv_at hl 0 rfl) ?_
    refine va_get (D := D) (ci := 7) (v := .int (nI n)) (C := RX8) (T := TX8) (N := 10) hx hb hts hin_X8 hown hK hP 0 rfl rfl 6 (by decide) w_0 (fun _ h9 => h9) rfl dX8_addHouse_24 ?_
    refine lv_iload_n hx hb dX8_addHouse_27 rfl (lv_at hl 2 rfl) ?_
    refine x_iast hx hb hK hP hD hS 2 0 rfl rfl (j := n) (by omega) (by decide) dX8_addHouse_28 (fun H locs hP hD hS => ?_)
    have hP : va_P D vwCl [(o0, .inr (7, [.ref o1, .ref o2, .ref o3, .ref o4, .ref o5, .ref o6, .int (nI n), .int (nI k), .int wd, .int (bb wt)])), (o1, .inl (cI, 8, .inl (upd xs n x))), (o2, .inl (cI, 8, .inl (upd ys n y))), (o3, .inl (cI, 8, .inl rf)), (o4, .inl (cI, 8, .inl bo)), (o5, .inl (cI, 4, .inl pr)), (o6, .inl (cI, 4, .inl bu))] H := hP
    have hD : va_D A [(o0, .inr (7, [.ref o1, .ref o2, .ref o3, .ref o4, .ref o5, .ref o6, .int (nI n), .int (nI k), .int wd, .int (bb wt)])), (o1, .inl (cI, 8, .inl (upd xs n x))), (o2, .inl (cI, 8, .inl (upd ys n y))), (o3, .inl (cI, 8, .inl rf)), (o4, .inl (cI, 8, .inl bo)), (o5, .inl (cI, 4, .inl pr)), (o6, .inl (cI, 4, .inl bu))] := hD
    refine lv_aload_n hx hb dX8_addHouse_29 rfl (lv_at hl 0 rfl) ?_
    refine va_get (D := D) (ci := 7) (v := .ref o3) (C := RX8) (T := TX8) (N := 10) hx hb hts hin_X8 hown hK hP 0 rfl rfl 2 (by decide) w_3 (fun _ h9 => h9) rfl dX8_addHouse_30 ?_
    refine lv_aload_n hx hb dX8_addHouse_33 rfl (lv_at hl 0 rfl) ?_
    refine va_get (D := D) (ci := 7) (v := .int (nI n)) (C := RX8) (T := TX8) (N := 10) hx hb hts hin_X8 hown hK hP 0 rfl rfl 6 (by decide) w_0 (fun _ h9 => h9) rfl dX8_addHouse_34 ?_
    refine lv_bipush (v := (-9 : Int32)) hx hb dX8_addHouse_37 (by decide) ?_
    refine x_iast hx hb hK hP hD hS 3 0 rfl rfl (j := n) (by omega) (by decide) dX8_addHouse_39 (fun H locs hP hD hS => ?_)
    have hP : va_P D vwCl [(o0, .inr (7, [.ref o1, .ref o2, .ref o3, .ref o4, .ref o5, .ref o6, .int (nI n), .int (nI k), .int wd, .int (bb wt)])), (o1, .inl (cI, 8, .inl (upd xs n x))), (o2, .inl (cI, 8, .inl (upd ys n y))), (o3, .inl (cI, 8, .inl (upd rf n (-9 : Int32)))), (o4, .inl (cI, 8, .inl bo)), (o5, .inl (cI, 4, .inl pr)), (o6, .inl (cI, 4, .inl bu))] H := hP
    have hD : va_D A [(o0, .inr (7, [.ref o1, .ref o2, .ref o3, .ref o4, .ref o5, .ref o6, .int (nI n), .int (nI k), .int wd, .int (bb wt)])), (o1, .inl (cI, 8, .inl (upd xs n x))), (o2, .inl (cI, 8, .inl (upd ys n y))), (o3, .inl (cI, 8, .inl (upd rf n (-9 : Int32)))), (o4, .inl (cI, 8, .inl bo)), (o5, .inl (cI, 4, .inl pr)), (o6, .inl (cI, 4, .inl bu))] := hD
    refine lv_aload_n hx hb dX8_addHouse_40 rfl (lv_at hl 0 rfl) ?_
    refine va_get (D := D) (ci := 7) (v := .ref o4) (C := RX8) (T := TX8) (N := 10) hx hb hts hin_X8 hown hK hP 0 rfl rfl 3 (by decide) w_4 (fun _ h9 => h9) rfl dX8_addHouse_41 ?_
    refine lv_aload_n hx hb dX8_addHouse_44 rfl (lv_at hl 0 rfl) ?_
    refine va_get (D := D) (ci := 7) (v := .int (nI n)) (C := RX8) (T := TX8) (N := 10) hx hb hts hin_X8 hown hK hP 0 rfl rfl 6 (by decide) w_0 (fun _ h9 => h9) rfl dX8_addHouse_45 ?_
    refine lv_bipush (v := (-9 : Int32)) hx hb dX8_addHouse_48 (by decide) ?_
    refine x_iast hx hb hK hP hD hS 4 0 rfl rfl (j := n) (by omega) (by decide) dX8_addHouse_50 (fun H locs hP hD hS => ?_)
    have hP : va_P D vwCl [(o0, .inr (7, [.ref o1, .ref o2, .ref o3, .ref o4, .ref o5, .ref o6, .int (nI n), .int (nI k), .int wd, .int (bb wt)])), (o1, .inl (cI, 8, .inl (upd xs n x))), (o2, .inl (cI, 8, .inl (upd ys n y))), (o3, .inl (cI, 8, .inl (upd rf n (-9 : Int32)))), (o4, .inl (cI, 8, .inl (upd bo n (-9 : Int32)))), (o5, .inl (cI, 4, .inl pr)), (o6, .inl (cI, 4, .inl bu))] H := hP
    have hD : va_D A [(o0, .inr (7, [.ref o1, .ref o2, .ref o3, .ref o4, .ref o5, .ref o6, .int (nI n), .int (nI k), .int wd, .int (bb wt)])), (o1, .inl (cI, 8, .inl (upd xs n x))), (o2, .inl (cI, 8, .inl (upd ys n y))), (o3, .inl (cI, 8, .inl (upd rf n (-9 : Int32)))), (o4, .inl (cI, 8, .inl (upd bo n (-9 : Int32)))), (o5, .inl (cI, 4, .inl pr)), (o6, .inl (cI, 4, .inl bu))] := hD
    refine lv_aload_n hx hb dX8_addHouse_51 rfl (lv_at hl 0 rfl) ?_
    refine lv_dup hx hb dX8_addHouse_52 rfl ?_
    refine va_get (D := D) (ci := 7) (v := .int (nI n)) (C := RX8) (T := TX8) (N := 10) hx hb hts hin_X8 hown hK hP 0 rfl rfl 6 (by decide) w_0 (fun _ h9 => h9) rfl dX8_addHouse_53 ?_
    refine lv_iconst (v := (1 : Int32)) hx hb dX8_addHouse_56 (by decide) ?_
    refine lv_iadd hx hb dX8_addHouse_57 ?_
    refine lv_topr (x' := nI (n + 1)) (nI_add n 1) ?_
    refine va_put (D := D) (ci := 7) (v := .int (nI (n + 1))) (ty := .int) (C := RX8) (T := TX8) (N := 10) hx hb hts hin_X8 tyX8 tyX8_ok nmX8 hown hK hP hD hS 0 rfl rfl 6 (by decide) w_0 (fun _ h9 => h9) rfl (by decide +kernel) rfl rfl (Nat.le_of_ble_eq_true rfl) dX8_addHouse_58 (fun H locs hP hD hS => ?_)
    have hP : va_P D vwCl [(o0, .inr (7, [.ref o1, .ref o2, .ref o3, .ref o4, .ref o5, .ref o6, .int (nI (n + 1)), .int (nI k), .int wd, .int (bb wt)])), (o1, .inl (cI, 8, .inl (upd xs n x))), (o2, .inl (cI, 8, .inl (upd ys n y))), (o3, .inl (cI, 8, .inl (upd rf n (-9 : Int32)))), (o4, .inl (cI, 8, .inl (upd bo n (-9 : Int32)))), (o5, .inl (cI, 4, .inl pr)), (o6, .inl (cI, 4, .inl bu))] H := hP
    have hD : va_D A [(o0, .inr (7, [.ref o1, .ref o2, .ref o3, .ref o4, .ref o5, .ref o6, .int (nI (n + 1)), .int (nI k), .int wd, .int (bb wt)])), (o1, .inl (cI, 8, .inl (upd xs n x))), (o2, .inl (cI, 8, .inl (upd ys n y))), (o3, .inl (cI, 8, .inl (upd rf n (-9 : Int32)))), (o4, .inl (cI, 8, .inl (upd bo n (-9 : Int32)))), (o5, .inl (cI, 4, .inl pr)), (o6, .inl (cI, 4, .inl bu))] := hD
    exact hret () _ _ _ _ (trivial) hP hD hS dX8_addHouse_61
