set_option maxHeartbeats 4000000 in
set_option maxRecDepth 100000 in
theorem c_X9_isFlag (l : Launch) (D : va_G) (cI cZ cO : ClassId) (sz : Nat) (gR : Nat) (gD : Nat) (gK : Nat → Nat) (gV : Nat → Nat) (v : Int32)  : xMi l yX9_isFlag wsX9_isFlag (0) (0) D (TY cI cZ cO) (xGc gR gD gK gV) [.int v] [] sz (fun (rv_ : Int32) (u : Unit) => rv_ = (bb (inr v 0 1)) ∧ (True)) (fun (u : Unit) => []) := by
  refine xMi.of (cc := cX9_isFlag) (maxL := 1) (by decide +kernel) rfl (Nat.le_of_ble_eq_true rfl) ?_
  intro p e s m below meth c A Q H hx hb hml hown hts hA hP hD hK hS hG hret ls hl
  have hown : s.vm.findClass RX9 = some m.cls := hown
  have hP : va_P D vwCl [] H := hP
  have hD : va_D A [] := hD
  have hl : lv_has ls 1 [(0, .int v)] := hl
  have _h0 : True := trivial
  refine lv_iload_n hx hb dX9_isFlag_0 rfl (lv_at hl 0 rfl) ?_
  refine lv_if_eq (tgt := 9) hx hb dX9_isFlag_1 (by decide) (fun c_1 => ?_) (fun c_1 => ?_)
  ·
    refine lv_iconst (v := (1 : Int32)) hx hb dX9_isFlag_9 (by decide) ?_
    refine lv_goto (tgt := 14) hx hb dX9_isFlag_10 (by decide) ?_
    exact hret _ () _ _ _ _ (rfl) (⟨by first | (rw [c_1]; rfl) | (rw [c_6]; rfl) | (rw [flag_f c_1 c_6]; rfl), trivial⟩) hP hD hS dX9_isFlag_14
  ·
    refine lv_iload_n hx hb dX9_isFlag_4 rfl (lv_at hl 0 rfl) ?_
    refine lv_iconst (v := (1 : Int32)) hx hb dX9_isFlag_5 (by decide) ?_
    refine lv_icmp_ne (tgt := 13) hx hb dX9_isFlag_6 (by decide) (fun c_6 => ?_) (fun c_6 => ?_)
    ·
      refine lv_iconst (v := (0 : Int32)) hx hb dX9_isFlag_13 (by decide) ?_
      exact hret _ () _ _ _ _ (rfl) (⟨by first | (rw [c_1]; rfl) | (rw [c_6]; rfl) | (rw [flag_f c_1 c_6]; rfl), trivial⟩) hP hD hS dX9_isFlag_14
    ·
      refine lv_iconst (v := (1 : Int32)) hx hb dX9_isFlag_9 (by decide) ?_
      refine lv_goto (tgt := 14) hx hb dX9_isFlag_10 (by decide) ?_
      exact hret _ () _ _ _ _ (rfl) (⟨by first | (rw [c_1]; rfl) | (rw [c_6]; rfl) | (rw [flag_f c_1 c_6]; rfl), trivial⟩) hP hD hS dX9_isFlag_14

set_option maxHeartbeats 4000000 in
set_option maxRecDepth 100000 in
theorem c_X9_clear (l : Launch) (D : va_G) (cI cZ cO : ClassId) (sz : Nat) (gR : Nat) (gD : Nat) (gK : Nat → Nat) (gV : Nat → Nat) (u0 : Nat) (t0 : Nat) (k0 : Nat) (e0 : Nat) (f0 : Nat) (s0 : Nat) (r0 : Nat) (g0 : Nat) (o0 : Nat) (do0 : Nat) (dr : Int32) (t1 : Nat) (ty : Nat) (bt : Nat → Nat) (hty : ty ≤ 300) : xMi l yX9_clear wsX9_clear (1) (21) D (TY cI cZ cO) (xGc gR gD gK gV) [.ref u0] [(u0, .inr (8, [.ref t0, .ref k0, .ref e0, .ref f0, .ref s0, .ref r0, .ref g0, .ref o0, .ref do0, .int dr])), (t0, .inr (5, [.ref t1, .int (nI ty)])), (t1, .inl (cI, 300, .inl (rI bt)))] sz (fun (rv_ : Int32) (u : Unit) => rv_ = (nI ty) ∧ (True)) (fun (u : Unit) => [(u0, .inr (8, [.ref t0, .ref k0, .ref e0, .ref f0, .ref s0, .ref r0, .ref g0, .ref o0, .ref do0, .int dr])), (t0, .inr (5, [.ref t1, .int (nI 0)])), (t1, .inl (cI, 300, .inl (rI bt)))]) := by
  refine xMi.of (cc := cX9_clear) (maxL := 1) (by decide +kernel) rfl (Nat.le_of_ble_eq_true rfl) ?_
  intro p e s m below meth c A Q H hx hb hml hown hts hA hP hD hK hS hG hret ls hl
  have hown : s.vm.findClass RX9 = some m.cls := hown
  have hP : va_P D vwCl [(u0, .inr (8, [.ref t0, .ref k0, .ref e0, .ref f0, .ref s0, .ref r0, .ref g0, .ref o0, .ref do0, .int dr])), (t0, .inr (5, [.ref t1, .int (nI ty)])), (t1, .inl (cI, 300, .inl (rI bt)))] H := hP
  have hD : va_D A [(u0, .inr (8, [.ref t0, .ref k0, .ref e0, .ref f0, .ref s0, .ref r0, .ref g0, .ref o0, .ref do0, .int dr])), (t0, .inr (5, [.ref t1, .int (nI ty)])), (t1, .inl (cI, 300, .inl (rI bt)))] := hD
  have hl : lv_has ls 1 [(0, .ref u0)] := hl
  have w_0 := hts (.fieldLink RX9 12 "UnlikeRoofs" "text" "LUnlikeRoofs$Text;") (List.mem_of_getElem? (i := 1) (by rfl))
  have hin_X9 : ∀ w ∈ wsX90, w ∈ wsX9_clear := fun _ h => List.mem_cons_of_mem _ (List.mem_append_left _ (List.mem_append_right _ h))
  have _h0 : True := trivial
  refine lv_aload_n hx hb dX9_clear_0 rfl (lv_at hl 0 rfl) ?_
  refine va_get (D := D) (ci := 8) (v := .ref t0) (C := RX9) (T := TX9) (N := 10) hx hb hts hin_X9 hown hK hP 0 rfl rfl 0 (by decide) w_0 (fun _ h9 => h9) rfl dX9_clear_1 ?_
  refine xcV_i (As := []) (rest := []) (wc := [(t0, .inr (5, [.ref t1, .int (nI ty)])), (t1, .inl (cI, 300, .inl (rI bt)))]) (wr := [(u0, .inr (8, [.ref t0, .ref k0, .ref e0, .ref f0, .ref s0, .ref r0, .ref g0, .ref o0, .ref do0, .int dr]))]) (w3 := fun (u : Unit) => [(u0, .inr (8, [.ref t0, .ref k0, .ref e0, .ref f0, .ref s0, .ref r0, .ref g0, .ref o0, .ref do0, .int dr])), (t0, .inr (5, [.ref t1, .int (nI 0)])), (t1, .inl (cI, 300, .inl (rI bt)))]) ⟨hx, hb, hml, hown, hts⟩ (c_X6_empty l D cI cZ cO H.size t0 t1 ty bt (by first | assumption | omega | rfl)) (cwV 0 hts gX9_clear_X6_empty rfl rfl rfl (by decide +kernel) ⟨Nat.le_of_ble_eq_true rfl, Nat.le_of_ble_eq_true rfl⟩) (xGdc gR gD gK gV) xGd0 (fun _ _ _ _ => trivial) hG hP hD hK hS hA [1, 2] [0] [0, 1, 2] rfl rfl rfl rfl rfl 1 rfl rfl rfl (fun _ => rfl) rfl rfl hl.1 (Nat.le_of_ble_eq_true rfl) dX9_clear_4 ⟨Nat.zero_le _, Nat.zero_le _⟩ (fun r u H locs hw hP hD hS => ?_)
  obtain ⟨rfl, hw⟩ := hw
  have hw_4 : True := hw
  have hP : va_P D vwCl [(u0, .inr (8, [.ref t0, .ref k0, .ref e0, .ref f0, .ref s0, .ref r0, .ref g0, .ref o0, .ref do0, .int dr])), (t0, .inr (5, [.ref t1, .int (nI 0)])), (t1, .inl (cI, 300, .inl (rI bt)))] H := hP
  have hD : va_D A [(u0, .inr (8, [.ref t0, .ref k0, .ref e0, .ref f0, .ref s0, .ref r0, .ref g0, .ref o0, .ref do0, .int dr])), (t0, .inr (5, [.ref t1, .int (nI 0)])), (t1, .inl (cI, 300, .inl (rI bt)))] := hD
  exact hret _ () _ _ _ _ (rfl) (⟨rfl, trivial⟩) hP hD hS dX9_clear_7

set_option maxHeartbeats 4000000 in
set_option maxRecDepth 100000 in
theorem c_X9_forget (l : Launch) (D : va_G) (cI cZ cO : ClassId) (sz : Nat) (gR : Nat) (gD : Nat) (gK : Nat → Nat) (gV : Nat → Nat) (u0 : Nat) (t0 : Nat) (k0 : Nat) (e0 : Nat) (f0 : Nat) (s0 : Nat) (r0 : Nat) (g0 : Nat) (o0 : Nat) (do0 : Nat) (dr : Int32) (s1 : Nat) (s2 : Nat) (sn : Nat) (sh : Nat → Int32) (sm : Nat → Int32)  : xMi l yX9_forget wsX9_forget (1) (21) D (TY cI cZ cO) (xGc gR gD gK gV) [.ref u0] [(u0, .inr (8, [.ref t0, .ref k0, .ref e0, .ref f0, .ref s0, .ref r0, .ref g0, .ref o0, .ref do0, .int dr])), (s0, .inr (4, [.ref s1, .ref s2, .int (nI sn)])), (s1, .inl (cI, 8, .inl sh)), (s2, .inl (cI, 8, .inl sm))] sz (fun (rv_ : Int32) (u : Unit) => rv_ = (nI sn) ∧ (True)) (fun (u : Unit) => [(u0, .inr (8, [.ref t0, .ref k0, .ref e0, .ref f0, .ref s0, .ref r0, .ref g0, .ref o0, .ref do0, .int dr])), (s0, .inr (4, [.ref s1, .ref s2, .int (nI 0)])), (s1, .inl (cI, 8, .inl sh)), (s2, .inl (cI, 8, .inl sm))]) := by
  refine xMi.of (cc := cX9_forget) (maxL := 1) (by decide +kernel) rfl (Nat.le_of_ble_eq_true rfl) ?_
  intro p e s m below meth c A Q H hx hb hml hown hts hA hP hD hK hS hG hret ls hl
  have hown : s.vm.findClass RX9 = some m.cls := hown
  have hP : va_P D vwCl [(u0, .inr (8, [.ref t0, .ref k0, .ref e0, .ref f0, .ref s0, .ref r0, .ref g0, .ref o0, .ref do0, .int dr])), (s0, .inr (4, [.ref s1, .ref s2, .int (nI sn)])), (s1, .inl (cI, 8, .inl sh)), (s2, .inl (cI, 8, .inl sm))] H := hP
  have hD : va_D A [(u0, .inr (8, [.ref t0, .ref k0, .ref e0, .ref f0, .ref s0, .ref r0, .ref g0, .ref o0, .ref do0, .int dr])), (s0, .inr (4, [.ref s1, .ref s2, .int (nI sn)])), (s1, .inl (cI, 8, .inl sh)), (s2, .inl (cI, 8, .inl sm))] := hD
  have hl : lv_has ls 1 [(0, .ref u0)] := hl
  have w_0 := hts (.fieldLink RX9 40 "UnlikeRoofs" "seen" "LUnlikeRoofs$Seen;") (List.mem_of_getElem? (i := 1) (by rfl))
  have hin_X9 : ∀ w ∈ wsX90, w ∈ wsX9_forget := fun _ h => List.mem_cons_of_mem _ (List.mem_append_left _ (List.mem_append_right _ h))
  have _h0 : True := trivial
  refine lv_aload_n hx hb dX9_forget_0 rfl (lv_at hl 0 rfl) ?_
  refine va_get (D := D) (ci := 8) (v := .ref s0) (C := RX9) (T := TX9) (N := 10) hx hb hts hin_X9 hown hK hP 0 rfl rfl 4 (by decide) w_0 (fun _ h9 => h9) rfl dX9_forget_1 ?_
  refine xcV_i (As := []) (rest := []) (wc := [(s0, .inr (4, [.ref s1, .ref s2, .int (nI sn)])), (s1, .inl (cI, 8, .inl sh)), (s2, .inl (cI, 8, .inl sm))]) (wr := [(u0, .inr (8, [.ref t0, .ref k0, .ref e0, .ref f0, .ref s0, .ref r0, .ref g0, .ref o0, .ref do0, .int dr]))]) (w3 := fun (u : Unit) => [(u0, .inr (8, [.ref t0, .ref k0, .ref e0, .ref f0, .ref s0, .ref r0, .ref g0, .ref o0, .ref do0, .int dr])), (s0, .inr (4, [.ref s1, .ref s2, .int (nI 0)])), (s1, .inl (cI, 8, .inl sh)), (s2, .inl (cI, 8, .inl sm))]) ⟨hx, hb, hml, hown, hts⟩ (c_X5_empty l D cI cZ cO H.size s0 s1 s2 sn sh sm ) (cwV 0 hts gX9_forget_X5_empty rfl rfl rfl (by decide +kernel) ⟨Nat.le_of_ble_eq_true rfl, Nat.le_of_ble_eq_true rfl⟩) (xGdc gR gD gK gV) xGd0 (fun _ _ _ _ => trivial) hG hP hD hK hS hA [1, 2, 3] [0] [0, 1, 2, 3] rfl rfl rfl rfl rfl 1 rfl rfl rfl (fun _ => rfl) rfl rfl hl.1 (Nat.le_of_ble_eq_true rfl) dX9_forget_4 ⟨Nat.zero_le _, Nat.zero_le _⟩ (fun r u H locs hw hP hD hS => ?_)
  obtain ⟨rfl, hw⟩ := hw
  have hw_4 : True := hw
  have hP : va_P D vwCl [(u0, .inr (8, [.ref t0, .ref k0, .ref e0, .ref f0, .ref s0, .ref r0, .ref g0, .ref o0, .ref do0, .int dr])), (s0, .inr (4, [.ref s1, .ref s2, .int (nI 0)])), (s1, .inl (cI, 8, .inl sh)), (s2, .inl (cI, 8, .inl sm))] H := hP
  have hD : va_D A [(u0, .inr (8, [.ref t0, .ref k0, .ref e0, .ref f0, .ref s0, .ref r0, .ref g0, .ref o0, .ref do0, .int dr])), (s0, .inr (4, [.ref s1, .ref s2, .int (nI 0)])), (s1, .inl (cI, 8, .inl sh)), (s2, .inl (cI, 8, .inl sm))] := hD
  exact hret _ () _ _ _ _ (rfl) (⟨rfl, trivial⟩) hP hD hS dX9_forget_7

set_option maxHeartbeats 4000000 in
set_option maxRecDepth 100000 in
theorem c_X9_lot (l : Launch) (D : va_G) (cI cZ cO : ClassId) (sz : Nat) (gR : Nat) (gD : Nat) (gK : Nat → Nat) (gV : Nat → Nat) (u0 : Nat) (t0 : Nat) (k0 : Nat) (e0 : Nat) (f0 : Nat) (s0 : Nat) (r0 : Nat) (g0 : Nat) (o0 : Nat) (do0 : Nat) (dr : Int32) (v : Int32)  : xMi l yX9_lot wsX9_lot (0) (0) D (TY cI cZ cO) (xGc gR gD gK gV) [.ref u0, .int v] [(u0, .inr (8, [.ref t0, .ref k0, .ref e0, .ref f0, .ref s0, .ref r0, .ref g0, .ref o0, .ref do0, .int dr]))] sz (fun (rv_ : Int32) (u : Unit) => rv_ = dr ∧ (True)) (fun (u : Unit) => [(u0, .inr (8, [.ref t0, .ref k0, .ref e0, .ref f0, .ref s0, .ref r0, .ref g0, .ref o0, .ref do0, .int v]))]) := by
  refine xMi.of (cc := cX9_lot) (maxL := 3) (by decide +kernel) rfl (Nat.le_of_ble_eq_true rfl) ?_
  intro p e s m below meth c A Q H hx hb hml hown hts hA hP hD hK hS hG hret ls hl
  have hown : s.vm.findClass RX9 = some m.cls := hown
  have hP : va_P D vwCl [(u0, .inr (8, [.ref t0, .ref k0, .ref e0, .ref f0, .ref s0, .ref r0, .ref g0, .ref o0, .ref do0, .int dr]))] H := hP
  have hD : va_D A [(u0, .inr (8, [.ref t0, .ref k0, .ref e0, .ref f0, .ref s0, .ref r0, .ref g0, .ref o0, .ref do0, .int dr]))] := hD
  have hl : lv_has ls 3 [(0, .ref u0), (1, .int v)] := hl
  have w_0 := hts (.fieldLink RX9 68 "UnlikeRoofs" "drawn" "I") (List.mem_of_getElem? (i := 1) (by rfl))
  have hin_X9 : ∀ w ∈ wsX90, w ∈ wsX9_lot := fun _ h => List.mem_cons_of_mem _ (List.mem_append_right _ h)
  have _h0 : True := trivial
  refine lv_aload_n hx hb dX9_lot_0 rfl (lv_at hl 0 rfl) ?_
  refine va_get (D := D) (ci := 8) (v := .int dr) (C := RX9) (T := TX9) (N := 10) hx hb hts hin_X9 hown hK hP 0 rfl rfl 9 (by decide) w_0 (fun _ h9 => h9) rfl dX9_lot_1 ?_
  refine lv_istore_n (lv' := [(2, .int dr), (0, .ref u0), (1, .int v)]) hx hb dX9_lot_4 rfl hl (by decide) rfl (fun ls hl => ?_)
  refine lv_aload_n hx hb dX9_lot_5 rfl (lv_at hl 1 rfl) ?_
  refine lv_iload_n hx hb dX9_lot_6 rfl (lv_at hl 2 rfl) ?_
  refine va_put (D := D) (ci := 8) (v := .int v) (ty := .int) (C := RX9) (T := TX9) (N := 10) hx hb hts hin_X9 tyX9 tyX9_ok nmX9 hown hK hP hD hS 0 rfl rfl 9 (by decide) w_0 (fun _ h9 => h9) rfl (by decide +kernel) rfl rfl (Nat.le_of_ble_eq_true rfl) dX9_lot_7 (fun H locs hP hD hS => ?_)
  have hP : va_P D vwCl [(u0, .inr (8, [.ref t0, .ref k0, .ref e0, .ref f0, .ref s0, .ref r0, .ref g0, .ref o0, .ref do0, .int v]))] H := hP
  have hD : va_D A [(u0, .inr (8, [.ref t0, .ref k0, .ref e0, .ref f0, .ref s0, .ref r0, .ref g0, .ref o0, .ref do0, .int v]))] := hD
  refine lv_iload_n hx hb dX9_lot_10 rfl (lv_at hl 0 rfl) ?_
  exact hret _ () _ _ _ _ (rfl) (⟨rfl, trivial⟩) hP hD hS dX9_lot_11

set_option maxHeartbeats 4000000 in
set_option maxRecDepth 100000 in
theorem c_X9_trace (l : Launch) (D : va_G) (cI cZ cO : ClassId) (sz : Nat) (gR : Nat) (gD : Nat) (gK : Nat → Nat) (gV : Nat → Nat) (u0 : Nat) (t0 : Nat) (k0 : Nat) (e0 : Nat) (f0 : Nat) (s0 : Nat) (r0 : Nat) (g0 : Nat) (o0 : Nat) (do0 : Nat) (dr : Int32) (as_ : Int64)  : xMl l yX9_trace wsX9_trace (0) (0) D (TY cI cZ cO) (xGc gR gD gK gV) [.ref u0] [(u0, .inr (8, [.ref t0, .ref k0, .ref e0, .ref f0, .ref s0, .ref r0, .ref g0, .ref o0, .ref do0, .int dr])), (r0, .inr (2, [.long as_]))] sz (fun (rv_ : Int64) (u : Unit) => rv_ = as_ ∧ (True)) (fun (u : Unit) => [(u0, .inr (8, [.ref t0, .ref k0, .ref e0, .ref f0, .ref s0, .ref r0, .ref g0, .ref o0, .ref do0, .int dr])), (r0, .inr (2, [.long as_]))]) := by
  refine xMl.of (cc := cX9_trace) (maxL := 1) (by decide +kernel) rfl (Nat.le_of_ble_eq_true rfl) ?_
  intro p e s m below meth c A Q H hx hb hml hown hts hA hP hD hK hS hG hret ls hl
  have hown : s.vm.findClass RX9 = some m.cls := hown
  have hP : va_P D vwCl [(u0, .inr (8, [.ref t0, .ref k0, .ref e0, .ref f0, .ref s0, .ref r0, .ref g0, .ref o0, .ref do0, .int dr])), (r0, .inr (2, [.long as_]))] H := hP
  have hD : va_D A [(u0, .inr (8, [.ref t0, .ref k0, .ref e0, .ref f0, .ref s0, .ref r0, .ref g0, .ref o0, .ref do0, .int dr])), (r0, .inr (2, [.long as_]))] := hD
  have hl : lv_has ls 1 [(0, .ref u0)] := hl
  have w_0 := hts (.fieldLink RX9 47 "UnlikeRoofs" "rating" "LUnlikeRoofs$Rating;") (List.mem_of_getElem? (i := 1) (by rfl))
  have wn_0 : (Cond.fieldLinkNest RX9 236 "UnlikeRoofs$Rating" "asked" "J" "UnlikeRoofs").before ([.ref u0] : List Value).toArray s = true := va_Nw.use rfl (hG.1 (.fieldLinkNest RX9 236 "UnlikeRoofs$Rating" "asked" "J" "UnlikeRoofs") (List.mem_of_getElem? (i := 6) (by rfl)))
  have hin_X2 : ∀ w ∈ wsX20, w ∈ wsX9_trace := fun _ h => List.mem_cons_of_mem _ (List.mem_append_right _ h)
  have hin_X9 : ∀ w ∈ wsX90, w ∈ wsX9_trace := fun _ h => List.mem_cons_of_mem _ (List.mem_append_left _ (List.mem_append_right _ h))
  have _h0 : True := trivial
  refine lv_aload_n hx hb dX9_trace_0 rfl (lv_at hl 0 rfl) ?_
  refine va_get (D := D) (ci := 8) (v := .ref r0) (C := RX9) (T := TX9) (N := 10) hx hb hts hin_X9 hown hK hP 0 rfl rfl 5 (by decide) w_0 (fun _ h9 => h9) rfl dX9_trace_1 ?_
  refine va_getN (D := D) (ci := 2) (v := .long as_) (C := RX2) (T := TX2) (N := 1) hx hb hts hin_X2 hown hK hP 1 rfl rfl 0 (by decide) wn_0 (fun _ h9 => h9) rfl dX9_trace_4 ?_
  exact hret _ () _ _ _ _ (⟨rfl, trivial⟩) hP hD hS dX9_trace_7

set_option maxHeartbeats 4000000 in
set_option maxRecDepth 100000 in
theorem c_X9_house (l : Launch) (D : va_G) (cI cZ cO : ClassId) (sz : Nat) (gR : Nat) (gD : Nat) (gK : Nat → Nat) (gV : Nat → Nat) (u0 : Nat) (t0 : Nat) (k0 : Nat) (e0 : Nat) (f0 : Nat) (s0 : Nat) (r0 : Nat) (g0 : Nat) (o0 : Nat) (do0 : Nat) (dr : Int32) (o1 : Nat) (o2 : Nat) (o3 : Nat) (o4 : Nat) (o5 : Nat) (o6 : Nat) (xs : Nat → Int32) (ys : Nat → Int32) (rf : Nat → Int32) (bo : Nat → Int32) (pr : Nat → Int32) (bu : Nat → Int32) (n : Nat) (k : Nat) (wn : Nat) (wt : Bool) (h : Int32) (what : Int32) (hn : n ≤ 8) (hc : cOK n xs ys) : xMi l yX9_house wsX9_house (3) (68) D (TY cI cZ cO) (xGc gR gD gK gV) [.ref u0, .int h, .int what] [(u0, .inr (8, [.ref t0, .ref k0, .ref e0, .ref f0, .ref s0, .ref r0, .ref g0, .ref o0, .ref do0, .int dr])), (o0, .inr (7, [.ref o1, .ref o2, .ref o3, .ref o4, .ref o5, .ref o6, .int (nI n), .int (nI k), .int (nI wn), .int (bb wt)])), (o1, .inl (cI, 8, .inl xs)), (o2, .inl (cI, 8, .inl ys)), (o3, .inl (cI, 8, .inl rf)), (o4, .inl (cI, 8, .inl bo)), (o5, .inl (cI, 4, .inl pr)), (o6, .inl (cI, 4, .inl bu))] sz (fun (rv_ : Int32) (u : Unit) => rv_ = (aHouse n xs ys rf bo h what) ∧ (True)) (fun (u : Unit) => [(u0, .inr (8, [.ref t0, .ref k0, .ref e0, .ref f0, .ref s0, .ref r0, .ref g0, .ref o0, .ref do0, .int dr])), (o0, .inr (7, [.ref o1, .ref o2, .ref o3, .ref o4, .ref o5, .ref o6, .int (nI n), .int (nI k), .int (nI wn), .int (bb wt)])), (o1, .inl (cI, 8, .inl xs)), (o2, .inl (cI, 8, .inl ys)), (o3, .inl (cI, 8, .inl rf)), (o4, .inl (cI, 8, .inl bo)), (o5, .inl (cI, 4, .inl pr)), (o6, .inl (cI, 4, .inl bu))]) := by
  refine xMi.of (cc := cX9_house) (maxL := 3) (by decide +kernel) rfl (Nat.le_of_ble_eq_true rfl) ?_
  intro p e s m below meth c A Q H hx hb hml hown hts hA hP hD hK hS hG hret ls hl
  have hown : s.vm.findClass RX9 = some m.cls := hown
  have hP : va_P D vwCl [(u0, .inr (8, [.ref t0, .ref k0, .ref e0, .ref f0, .ref s0, .ref r0, .ref g0, .ref o0, .ref do0, .int dr])), (o0, .inr (7, [.ref o1, .ref o2, .ref o3, .ref o4, .ref o5, .ref o6, .int (nI n), .int (nI k), .int (nI wn), .int (bb wt)])), (o1, .inl (cI, 8, .inl xs)), (o2, .inl (cI, 8, .inl ys)), (o3, .inl (cI, 8, .inl rf)), (o4, .inl (cI, 8, .inl bo)), (o5, .inl (cI, 4, .inl pr)), (o6, .inl (cI, 4, .inl bu))] H := hP
  have hD : va_D A [(u0, .inr (8, [.ref t0, .ref k0, .ref e0, .ref f0, .ref s0, .ref r0, .ref g0, .ref o0, .ref do0, .int dr])), (o0, .inr (7, [.ref o1, .ref o2, .ref o3, .ref o4, .ref o5, .ref o6, .int (nI n), .int (nI k), .int (nI wn), .int (bb wt)])), (o1, .inl (cI, 8, .inl xs)), (o2, .inl (cI, 8, .inl ys)), (o3, .inl (cI, 8, .inl rf)), (o4, .inl (cI, 8, .inl bo)), (o5, .inl (cI, 4, .inl pr)), (o6, .inl (cI, 4, .inl bu))] := hD
  have hl : lv_has ls 3 [(0, .ref u0), (1, .int h), (2, .int what)] := hl
  have w_0 := hts (.fieldLink RX9 61 "UnlikeRoofs" "told" "LUnlikeRoofs$Town;") (List.mem_of_getElem? (i := 1) (by rfl))
  have wn_0 : (Cond.fieldLinkNest RX9 105 "UnlikeRoofs$Town" "xs" "[I" "UnlikeRoofs").before ([.ref u0, .int h, .int what] : List Value).toArray s = true := va_Nw.use rfl (hG.1 (.fieldLinkNest RX9 105 "UnlikeRoofs$Town" "xs" "[I" "UnlikeRoofs") (List.mem_of_getElem? (i := 9) (by rfl)))
  have wn_1 : (Cond.fieldLinkNest RX9 109 "UnlikeRoofs$Town" "ys" "[I" "UnlikeRoofs").before ([.ref u0, .int h, .int what] : List Value).toArray s = true := va_Nw.use rfl (hG.1 (.fieldLinkNest RX9 109 "UnlikeRoofs$Town" "ys" "[I" "UnlikeRoofs") (List.mem_of_getElem? (i := 10) (by rfl)))
  have wn_2 : (Cond.fieldLinkNest RX9 112 "UnlikeRoofs$Town" "roofs" "[I" "UnlikeRoofs").before ([.ref u0, .int h, .int what] : List Value).toArray s = true := va_Nw.use rfl (hG.1 (.fieldLinkNest RX9 112 "UnlikeRoofs$Town" "roofs" "[I" "UnlikeRoofs") (List.mem_of_getElem? (i := 15) (by rfl)))
  have wn_3 : (Cond.fieldLinkNest RX9 115 "UnlikeRoofs$Town" "bounds" "[I" "UnlikeRoofs").before ([.ref u0, .int h, .int what] : List Value).toArray s = true := va_Nw.use rfl (hG.1 (.fieldLinkNest RX9 115 "UnlikeRoofs$Town" "bounds" "[I" "UnlikeRoofs") (List.mem_of_getElem? (i := 18) (by rfl)))
  have hin_X8 : ∀ w ∈ wsX80, w ∈ wsX9_house := fun _ h => List.mem_cons_of_mem _ (List.mem_append_right _ h)
  have hin_X9 : ∀ w ∈ wsX90, w ∈ wsX9_house := fun _ h => List.mem_cons_of_mem _ (List.mem_append_left _ (List.mem_append_right _ h))
  have _h0 : True := trivial
  refine lv_aload_n hx hb dX9_house_0 rfl (lv_at hl 0 rfl) ?_
  refine va_get (D := D) (ci := 8) (v := .ref o0) (C := RX9) (T := TX9) (N := 10) hx hb hts hin_X9 hown hK hP 0 rfl rfl 7 (by decide) w_0 (fun _ h9 => h9) rfl dX9_house_1 ?_
  refine lv_iload_n hx hb dX9_house_4 rfl (lv_at hl 1 rfl) ?_
  refine xcV_i (As := [.int h]) (rest := []) (wc := [(o0, .inr (7, [.ref o1, .ref o2, .ref o3, .ref o4, .ref o5, .ref o6, .int (nI n), .int (nI k), .int (nI wn), .int (bb wt)])), (o1, .inl (cI, 8, .inl xs)), (o2, .inl (cI, 8, .inl ys)), (o3, .inl (cI, 8, .inl rf)), (o4, .inl (cI, 8, .inl bo)), (o5, .inl (cI, 4, .inl pr)), (o6, .inl (cI, 4, .inl bu))]) (wr := [(u0, .inr (8, [.ref t0, .ref k0, .ref e0, .ref f0, .ref s0, .ref r0, .ref g0, .ref o0, .ref do0, .int dr]))]) (w3 := fun (u : Unit) => [(u0, .inr (8, [.ref t0, .ref k0, .ref e0, .ref f0, .ref s0, .ref r0, .ref g0, .ref o0, .ref do0, .int dr])), (o0, .inr (7, [.ref o1, .ref o2, .ref o3, .ref o4, .ref o5, .ref o6, .int (nI n), .int (nI k), .int (nI wn), .int (bb wt)])), (o1, .inl (cI, 8, .inl xs)), (o2, .inl (cI, 8, .inl ys)), (o3, .inl (cI, 8, .inl rf)), (o4, .inl (cI, 8, .inl bo)), (o5, .inl (cI, 4, .inl pr)), (o6, .inl (cI, 4, .inl bu))]) ⟨hx, hb, hml, hown, hts⟩ (c_X8_hasHouse l D cI cZ cO H.size o0 o1 o2 o3 o4 o5 o6 xs ys rf bo pr bu n k (nI wn) wt h (by first | assumption | omega | rfl)) (cwV 1 hts gX9_house_X8_hasHouse rfl rfl rfl (by decide +kernel) ⟨Nat.le_of_ble_eq_true rfl, Nat.le_of_ble_eq_true rfl⟩) (xGdc gR gD gK gV) xGd0 (fun _ _ _ _ => trivial) hG hP hD hK hS hA [1, 2, 3, 4, 5, 6, 7] [0] [0, 1, 2, 3, 4, 5, 6, 7] rfl rfl rfl rfl rfl 1 rfl rfl rfl (fun _ => rfl) rfl rfl hl.1 (Nat.le_of_ble_eq_true rfl) dX9_house_5 ⟨Nat.zero_le _, Nat.zero_le _⟩ (fun r u H locs hw hP hD hS => ?_)
  obtain ⟨rfl, hw⟩ := hw
  have hw_5 : True := hw
  have hP : va_P D vwCl [(u0, .inr (8, [.ref t0, .ref k0, .ref e0, .ref f0, .ref s0, .ref r0, .ref g0, .ref o0, .ref do0, .int dr])), (o0, .inr (7, [.ref o1, .ref o2, .ref o3, .ref o4, .ref o5, .ref o6, .int (nI n), .int (nI k), .int (nI wn), .int (bb wt)])), (o1, .inl (cI, 8, .inl xs)), (o2, .inl (cI, 8, .inl ys)), (o3, .inl (cI, 8, .inl rf)), (o4, .inl (cI, 8, .inl bo)), (o5, .inl (cI, 4, .inl pr)), (o6, .inl (cI, 4, .inl bu))] H := hP
  have hD : va_D A [(u0, .inr (8, [.ref t0, .ref k0, .ref e0, .ref f0, .ref s0, .ref r0, .ref g0, .ref o0, .ref do0, .int dr])), (o0, .inr (7, [.ref o1, .ref o2, .ref o3, .ref o4, .ref o5, .ref o6, .int (nI n), .int (nI k), .int (nI wn), .int (bb wt)])), (o1, .inl (cI, 8, .inl xs)), (o2, .inl (cI, 8, .inl ys)), (o3, .inl (cI, 8, .inl rf)), (o4, .inl (cI, 8, .inl bo)), (o5, .inl (cI, 4, .inl pr)), (o6, .inl (cI, 4, .inl bu))] := hD
  refine lv_if_ne (tgt := 13) hx hb dX9_house_8 (by decide) (fun c_8 => ?_) (fun c_8 => ?_)
  ·
    have b_8 : (inb h n) = true := bb_neq0 c_8
    obtain ⟨h1, hh1, rfl⟩ := inb_nI (by omega) b_8
    refine lv_iload_n hx hb dX9_house_13 rfl (lv_at hl 2 rfl) ?_
    by_cases c_14_0 : what = 0
    ·
      refine lv_tableIn (off := 34) (tgt := 48) hx hb dX9_house_14 (by rw [c_14_0]; decide) (by rw [c_14_0]; decide) (by rw [c_14_0]; rfl) (by decide) ?_
      refine lv_aload_n hx hb dX9_house_48 rfl (lv_at hl 0 rfl) ?_
      refine va_get (D := D) (ci := 8) (v := .ref o0) (C := RX9) (T := TX9) (N := 10) hx hb hts hin_X9 hown hK hP 0 rfl rfl 7 (by decide) w_0 (fun _ h9 => h9) rfl dX9_house_49 ?_
      refine va_getN (D := D) (ci := 7) (v := .ref o1) (C := RX8) (T := TX8) (N := 10) hx hb hts hin_X8 hown hK hP 1 rfl rfl 0 (by decide) wn_0 (fun _ h9 => h9) rfl dX9_house_52 ?_
      refine lv_iload_n hx hb dX9_house_55 rfl (lv_at hl 1 rfl) ?_
      refine x_iald hx hb hK hP 2 0 rfl rfl (j := h1) (by omega) (by decide) dX9_house_56 ?_
      exact hret _ () _ _ _ _ (rfl) (⟨by rw [aHouse, if_pos b_8]; first | (rw [c_14_0, tnI (show h1 < 2147483648 by omega)]; rfl) | (rw [c_14_1, tnI (show h1 < 2147483648 by omega)]; rfl) | (rw [c_14_2, tnI (show h1 < 2147483648 by omega)]; rfl) | (rw [c_14_3, tnI (show h1 < 2147483648 by omega)]; rfl) | (rw [c_14_4, tnI (show h1 < 2147483648 by omega), tch_cnt hn hc (by omega)]; rfl), trivial⟩) hP hD hS dX9_house_57
    by_cases c_14_1 : what = 1
    ·
      refine lv_tableIn (off := 44) (tgt := 58) hx hb dX9_house_14 (by rw [c_14_1]; decide) (by rw [c_14_1]; decide) (by rw [c_14_1]; rfl) (by decide) ?_
      refine lv_aload_n hx hb dX9_house_58 rfl (lv_at hl 0 rfl) ?_
      refine va_get (D := D) (ci := 8) (v := .ref o0) (C := RX9) (T := TX9) (N := 10) hx hb hts hin_X9 hown hK hP 0 rfl rfl 7 (by decide) w_0 (fun _ h9 => h9) rfl dX9_house_59 ?_
      refine va_getN (D := D) (ci := 7) (v := .ref o2) (C := RX8) (T := TX8) (N := 10) hx hb hts hin_X8 hown hK hP 1 rfl rfl 1 (by decide) wn_1 (fun _ h9 => h9) rfl dX9_house_62 ?_
      refine lv_iload_n hx hb dX9_house_65 rfl (lv_at hl 1 rfl) ?_
      refine x_iald hx hb hK hP 3 0 rfl rfl (j := h1) (by omega) (by decide) dX9_house_66 ?_
      exact hret _ () _ _ _ _ (rfl) (⟨by rw [aHouse, if_pos b_8]; first | (rw [c_14_0, tnI (show h1 < 2147483648 by omega)]; rfl) | (rw [c_14_1, tnI (show h1 < 2147483648 by omega)]; rfl) | (rw [c_14_2, tnI (show h1 < 2147483648 by omega)]; rfl) | (rw [c_14_3, tnI (show h1 < 2147483648 by omega)]; rfl) | (rw [c_14_4, tnI (show h1 < 2147483648 by omega), tch_cnt hn hc (by omega)]; rfl), trivial⟩) hP hD hS dX9_house_67
    by_cases c_14_2 : what = 2
    ·
      refine lv_tableIn (off := 54) (tgt := 68) hx hb dX9_house_14 (by rw [c_14_2]; decide) (by rw [c_14_2]; decide) (by rw [c_14_2]; rfl) (by decide) ?_
      refine lv_aload_n hx hb dX9_house_68 rfl (lv_at hl 0 rfl) ?_
      refine va_get (D := D) (ci := 8) (v := .ref o0) (C := RX9) (T := TX9) (N := 10) hx hb hts hin_X9 hown hK hP 0 rfl rfl 7 (by decide) w_0 (fun _ h9 => h9) rfl dX9_house_69 ?_
      refine va_getN (D := D) (ci := 7) (v := .ref o3) (C := RX8) (T := TX8) (N := 10) hx hb hts hin_X8 hown hK hP 1 rfl rfl 2 (by decide) wn_2 (fun _ h9 => h9) rfl dX9_house_72 ?_
      refine lv_iload_n hx hb dX9_house_75 rfl (lv_at hl 1 rfl) ?_
      refine x_iald hx hb hK hP 4 0 rfl rfl (j := h1) (by omega) (by decide) dX9_house_76 ?_
      exact hret _ () _ _ _ _ (rfl) (⟨by rw [aHouse, if_pos b_8]; first | (rw [c_14_0, tnI (show h1 < 2147483648 by omega)]; rfl) | (rw [c_14_1, tnI (show h1 < 2147483648 by omega)]; rfl) | (rw [c_14_2, tnI (show h1 < 2147483648 by omega)]; rfl) | (rw [c_14_3, tnI (show h1 < 2147483648 by omega)]; rfl) | (rw [c_14_4, tnI (show h1 < 2147483648 by omega), tch_cnt hn hc (by omega)]; rfl), trivial⟩) hP hD hS dX9_house_77
    by_cases c_14_3 : what = 3
    ·
      refine lv_tableIn (off := 64) (tgt := 78) hx hb dX9_house_14 (by rw [c_14_3]; decide) (by rw [c_14_3]; decide) (by rw [c_14_3]; rfl) (by decide) ?_
      refine lv_aload_n hx hb dX9_house_78 rfl (lv_at hl 0 rfl) ?_
      refine va_get (D := D) (ci := 8) (v := .ref o0) (C := RX9) (T := TX9) (N := 10) hx hb hts hin_X9 hown hK hP 0 rfl rfl 7 (by decide) w_0 (fun _ h9 => h9) rfl dX9_house_79 ?_
      refine va_getN (D := D) (ci := 7) (v := .ref o4) (C := RX8) (T := TX8) (N := 10) hx hb hts hin_X8 hown hK hP 1 rfl rfl 3 (by decide) wn_3 (fun _ h9 => h9) rfl dX9_house_82 ?_
      refine lv_iload_n hx hb dX9_house_85 rfl (lv_at hl 1 rfl) ?_
      refine x_iald hx hb hK hP 5 0 rfl rfl (j := h1) (by omega) (by decide) dX9_house_86 ?_
      exact hret _ () _ _ _ _ (rfl) (⟨by rw [aHouse, if_pos b_8]; first | (rw [c_14_0, tnI (show h1 < 2147483648 by omega)]; rfl) | (rw [c_14_1, tnI (show h1 < 2147483648 by omega)]; rfl) | (rw [c_14_2, tnI (show h1 < 2147483648 by omega)]; rfl) | (rw [c_14_3, tnI (show h1 < 2147483648 by omega)]; rfl) | (rw [c_14_4, tnI (show h1 < 2147483648 by omega), tch_cnt hn hc (by omega)]; rfl), trivial⟩) hP hD hS dX9_house_87
    by_cases c_14_4 : what = 4
    ·
      refine lv_tableIn (off := 74) (tgt := 88) hx hb dX9_house_14 (by rw [c_14_4]; decide) (by rw [c_14_4]; decide) (by rw [c_14_4]; rfl) (by decide) ?_
      refine lv_aload_n hx hb dX9_house_88 rfl (lv_at hl 0 rfl) ?_
      refine va_get (D := D) (ci := 8) (v := .ref o0) (C := RX9) (T := TX9) (N := 10) hx hb hts hin_X9 hown hK hP 0 rfl rfl 7 (by decide) w_0 (fun _ h9 => h9) rfl dX9_house_89 ?_
      refine lv_iload_n hx hb dX9_house_92 rfl (lv_at hl 1 rfl) ?_
      refine xcV_i (As := [.int (nI h1)]) (rest := []) (wc := [(o0, .inr (7, [.ref o1, .ref o2, .ref o3, .ref o4, .ref o5, .ref o6, .int (nI n), .int (nI k), .int (nI wn), .int (bb wt)])), (o1, .inl (cI, 8, .inl xs)), (o2, .inl (cI, 8, .inl ys)), (o3, .inl (cI, 8, .inl rf)), (o4, .inl (cI, 8, .inl bo)), (o5, .inl (cI, 4, .inl pr)), (o6, .inl (cI, 4, .inl bu))]) (wr := [(u0, .inr (8, [.ref t0, .ref k0, .ref e0, .ref f0, .ref s0, .ref r0, .ref g0, .ref o0, .ref do0, .int dr]))]) (w3 := fun (u : Unit) => [(u0, .inr (8, [.ref t0, .ref k0, .ref e0, .ref f0, .ref s0, .ref r0, .ref g0, .ref o0, .ref do0, .int dr])), (o0, .inr (7, [.ref o1, .ref o2, .ref o3, .ref o4, .ref o5, .ref o6, .int (nI n), .int (nI k), .int (nI wn), .int (bb wt)])), (o1, .inl (cI, 8, .inl xs)), (o2, .inl (cI, 8, .inl ys)), (o3, .inl (cI, 8, .inl rf)), (o4, .inl (cI, 8, .inl bo)), (o5, .inl (cI, 4, .inl pr)), (o6, .inl (cI, 4, .inl bu))]) ⟨hx, hb, hml, hown, hts⟩ (c_X8_touched l D cI cZ cO H.size o0 o1 o2 o3 o4 o5 o6 xs ys rf bo pr bu n k (nI wn) wt h1 (by first | assumption | omega | rfl) (by first | assumption | omega | rfl)) (cwV 1 hts gX9_house_X8_touched rfl rfl rfl (by decide +kernel) ⟨Nat.le_of_ble_eq_true rfl, Nat.le_of_ble_eq_true rfl⟩) (xGdc gR gD gK gV) xGd0 (fun _ _ _ _ => trivial) hG hP hD hK hS hA [1, 2, 3, 4, 5, 6, 7] [0] [0, 1, 2, 3, 4, 5, 6, 7] rfl rfl rfl rfl rfl 1 rfl rfl rfl (fun _ => rfl) rfl rfl hl.1 (Nat.le_of_ble_eq_true rfl) dX9_house_93 ⟨Nat.zero_le _, Nat.zero_le _⟩ (fun r u H locs hw hP hD hS => ?_)
      obtain ⟨rfl, hw⟩ := hw
      have hw_93 : True := hw
      have hP : va_P D vwCl [(u0, .inr (8, [.ref t0, .ref k0, .ref e0, .ref f0, .ref s0, .ref r0, .ref g0, .ref o0, .ref do0, .int dr])), (o0, .inr (7, [.ref o1, .ref o2, .ref o3, .ref o4, .ref o5, .ref o6, .int (nI n), .int (nI k), .int (nI wn), .int (bb wt)])), (o1, .inl (cI, 8, .inl xs)), (o2, .inl (cI, 8, .inl ys)), (o3, .inl (cI, 8, .inl rf)), (o4, .inl (cI, 8, .inl bo)), (o5, .inl (cI, 4, .inl pr)), (o6, .inl (cI, 4, .inl bu))] H := hP
      have hD : va_D A [(u0, .inr (8, [.ref t0, .ref k0, .ref e0, .ref f0, .ref s0, .ref r0, .ref g0, .ref o0, .ref do0, .int dr])), (o0, .inr (7, [.ref o1, .ref o2, .ref o3, .ref o4, .ref o5, .ref o6, .int (nI n), .int (nI k), .int (nI wn), .int (bb wt)])), (o1, .inl (cI, 8, .inl xs)), (o2, .inl (cI, 8, .inl ys)), (o3, .inl (cI, 8, .inl rf)), (o4, .inl (cI, 8, .inl bo)), (o5, .inl (cI, 4, .inl pr)), (o6, .inl (cI, 4, .inl bu))] := hD
      refine xcS_i (As := [.int (nI (mkM (fun g => arb xs ys h1 1 g) n))]) (rest := []) (wc := []) (wr := [(u0, .inr (8, [.ref t0, .ref k0, .ref e0, .ref f0, .ref s0, .ref r0, .ref g0, .ref o0, .ref do0, .int dr])), (o0, .inr (7, [.ref o1, .ref o2, .ref o3, .ref o4, .ref o5, .ref o6, .int (nI n), .int (nI k), .int (nI wn), .int (bb wt)])), (o1, .inl (cI, 8, .inl xs)), (o2, .inl (cI, 8, .inl ys)), (o3, .inl (cI, 8, .inl rf)), (o4, .inl (cI, 8, .inl bo)), (o5, .inl (cI, 4, .inl pr)), (o6, .inl (cI, 4, .inl bu))]) (w3 := fun (u : Unit) => [(u0, .inr (8, [.ref t0, .ref k0, .ref e0, .ref f0, .ref s0, .ref r0, .ref g0, .ref o0, .ref do0, .int dr])), (o0, .inr (7, [.ref o1, .ref o2, .ref o3, .ref o4, .ref o5, .ref o6, .int (nI n), .int (nI k), .int (nI wn), .int (bb wt)])), (o1, .inl (cI, 8, .inl xs)), (o2, .inl (cI, 8, .inl ys)), (o3, .inl (cI, 8, .inl rf)), (o4, .inl (cI, 8, .inl bo)), (o5, .inl (cI, 4, .inl pr)), (o6, .inl (cI, 4, .inl bu))]) ⟨hx, hb, hml, hown, hts⟩ (c_J6_bitCount_0f7a4 l D cI cZ cO H.size (mkM (fun g => arb xs ys h1 1 g) n) (mkM_256 hn)) (va_cwS 1 hts gX9_house_J6_bitCount_0f7a4 rfl rfl rfl (by decide +kernel) ⟨Nat.le_of_ble_eq_true rfl, Nat.le_of_ble_eq_true rfl⟩) (xGdc gR gD gK gV) xGd0 (fun _ _ _ _ => trivial) hG hP hD hK hS hA [] [0, 1, 2, 3, 4, 5, 6, 7] [0, 1, 2, 3, 4, 5, 6, 7] rfl rfl rfl rfl rfl rfl (fun _ => rfl) rfl rfl hl.1 (Nat.le_of_ble_eq_true rfl) dX9_house_96 ⟨Nat.zero_le _, Nat.zero_le _⟩ (fun r u H locs hw hP hD hS => ?_)
      obtain ⟨rfl, hw⟩ := hw
      have hw_96 : True := hw
      have hP : va_P D vwCl [(u0, .inr (8, [.ref t0, .ref k0, .ref e0, .ref f0, .ref s0, .ref r0, .ref g0, .ref o0, .ref do0, .int dr])), (o0, .inr (7, [.ref o1, .ref o2, .ref o3, .ref o4, .ref o5, .ref o6, .int (nI n), .int (nI k), .int (nI wn), .int (bb wt)])), (o1, .inl (cI, 8, .inl xs)), (o2, .inl (cI, 8, .inl ys)), (o3, .inl (cI, 8, .inl rf)), (o4, .inl (cI, 8, .inl bo)), (o5, .inl (cI, 4, .inl pr)), (o6, .inl (cI, 4, .inl bu))] H := hP
      have hD : va_D A [(u0, .inr (8, [.ref t0, .ref k0, .ref e0, .ref f0, .ref s0, .ref r0, .ref g0, .ref o0, .ref do0, .int dr])), (o0, .inr (7, [.ref o1, .ref o2, .ref o3, .ref o4, .ref o5, .ref o6, .int (nI n), .int (nI k), .int (nI wn), .int (bb wt)])), (o1, .inl (cI, 8, .inl xs)), (o2, .inl (cI, 8, .inl ys)), (o3, .inl (cI, 8, .inl rf)), (o4, .inl (cI, 8, .inl bo)), (o5, .inl (cI, 4, .inl pr)), (o6, .inl (cI, 4, .inl bu))] := hD
      exact hret _ () _ _ _ _ (rfl) (⟨by rw [aHouse, if_pos b_8]; first | (rw [c_14_0, tnI (show h1 < 2147483648 by omega)]; rfl) | (rw [c_14_1, tnI (show h1 < 2147483648 by omega)]; rfl) | (rw [c_14_2, tnI (show h1 < 2147483648 by omega)]; rfl) | (rw [c_14_3, tnI (show h1 < 2147483648 by omega)]; rfl) | (rw [c_14_4, tnI (show h1 < 2147483648 by omega), tch_cnt hn hc (by omega)]; rfl), trivial⟩) hP hD hS dX9_house_99
    have hto : what.toInt < 0 ∨ 4 < what.toInt := by
      by_cases q : what.toInt < 0
      · exact Or.inl q
      · refine Or.inr (Int.not_le.1 (fun q2 => ?_))
        rcases (show what.toInt = 0 ∨ what.toInt = 1 ∨ what.toInt = 2 ∨ what.toInt = 3 ∨ what.toInt = 4 by omega) with q3 | q3 | q3 | q3 | q3
        · exact c_14_0 (Int32.toInt_inj.1 q3)
        · exact c_14_1 (Int32.toInt_inj.1 q3)
        · exact c_14_2 (Int32.toInt_inj.1 q3)
        · exact c_14_3 (Int32.toInt_inj.1 q3)
        · exact c_14_4 (Int32.toInt_inj.1 q3)
    refine lv_tableOut (tgt := 100) hx hb dX9_house_14 hto (by decide) ?_
    refine lv_iconst (v := (-1 : Int32)) hx hb dX9_house_100 (by decide) ?_
    exact hret _ () _ _ _ _ (rfl) (⟨by first | rw [aHouse, if_neg (bfne b_8)] | rw [aHouse, if_pos b_8, if_neg (bfne (sw04 c_14_0 c_14_1 c_14_2 c_14_3 c_14_4))], trivial⟩) hP hD hS dX9_house_101
  ·
    have b_8 : (inb h n) = false := bb_eq0 c_8
    refine lv_iconst (v := (-1 : Int32)) hx hb dX9_house_11 (by decide) ?_
    exact hret _ () _ _ _ _ (rfl) (⟨by first | rw [aHouse, if_neg (bfne b_8)] | rw [aHouse, if_pos b_8, if_neg (bfne (sw04 c_14_0 c_14_1 c_14_2 c_14_3 c_14_4))], trivial⟩) hP hD hS dX9_house_12

set_option maxHeartbeats 4000000 in
set_option maxRecDepth 100000 in
theorem c_X9_sort (l : Launch) (D : va_G) (cI cZ cO : ClassId) (sz : Nat) (gR : Nat) (gD : Nat) (gK : Nat → Nat) (gV : Nat → Nat) (u0 : Nat) (t0 : Nat) (k0 : Nat) (e0 : Nat) (f0 : Nat) (s0 : Nat) (r0 : Nat) (g0 : Nat) (o0 : Nat) (do0 : Nat) (dr : Int32) (o1 : Nat) (o2 : Nat) (o3 : Nat) (o4 : Nat) (o5 : Nat) (o6 : Nat) (xs : Nat → Int32) (ys : Nat → Int32) (rf : Nat → Int32) (bo : Nat → Int32) (pr : Nat → Int32) (bu : Nat → Int32) (n : Nat) (k : Nat) (wn : Nat) (wt : Bool) (v : Int32) (what : Int32) (hk : k ≤ 4) : xMi l yX9_sort wsX9_sort (2) (42) D (TY cI cZ cO) (xGc gR gD gK gV) [.ref u0, .int v, .int what] [(u0, .inr (8, [.ref t0, .ref k0, .ref e0, .ref f0, .ref s0, .ref r0, .ref g0, .ref o0, .ref do0, .int dr])), (o0, .inr (7, [.ref o1, .ref o2, .ref o3, .ref o4, .ref o5, .ref o6, .int (nI n), .int (nI k), .int (nI wn), .int (bb wt)])), (o1, .inl (cI, 8, .inl xs)), (o2, .inl (cI, 8, .inl ys)), (o3, .inl (cI, 8, .inl rf)), (o4, .inl (cI, 8, .inl bo)), (o5, .inl (cI, 4, .inl pr)), (o6, .inl (cI, 4, .inl bu))] sz (fun (rv_ : Int32) (u : Unit) => rv_ = (aSort k pr bu v what) ∧ (True)) (fun (u : Unit) => [(u0, .inr (8, [.ref t0, .ref k0, .ref e0, .ref f0, .ref s0, .ref r0, .ref g0, .ref o0, .ref do0, .int dr])), (o0, .inr (7, [.ref o1, .ref o2, .ref o3, .ref o4, .ref o5, .ref o6, .int (nI n), .int (nI k), .int (nI wn), .int (bb wt)])), (o1, .inl (cI, 8, .inl xs)), (o2, .inl (cI, 8, .inl ys)), (o3, .inl (cI, 8, .inl rf)), (o4, .inl (cI, 8, .inl bo)), (o5, .inl (cI, 4, .inl pr)), (o6, .inl (cI, 4, .inl bu))]) := by
  refine xMi.of (cc := cX9_sort) (maxL := 3) (by decide +kernel) rfl (Nat.le_of_ble_eq_true rfl) ?_
  intro p e s m below meth c A Q H hx hb hml hown hts hA hP hD hK hS hG hret ls hl
  have hown : s.vm.findClass RX9 = some m.cls := hown
  have hP : va_P D vwCl [(u0, .inr (8, [.ref t0, .ref k0, .ref e0, .ref f0, .ref s0, .ref r0, .ref g0, .ref o0, .ref do0, .int dr])), (o0, .inr (7, [.ref o1, .ref o2, .ref o3, .ref o4, .ref o5, .ref o6, .int (nI n), .int (nI k), .int (nI wn), .int (bb wt)])), (o1, .inl (cI, 8, .inl xs)), (o2, .inl (cI, 8, .inl ys)), (o3, .inl (cI, 8, .inl rf)), (o4, .inl (cI, 8, .inl bo)), (o5, .inl (cI, 4, .inl pr)), (o6, .inl (cI, 4, .inl bu))] H := hP
  have hD : va_D A [(u0, .inr (8, [.ref t0, .ref k0, .ref e0, .ref f0, .ref s0, .ref r0, .ref g0, .ref o0, .ref do0, .int dr])), (o0, .inr (7, [.ref o1, .ref o2, .ref o3, .ref o4, .ref o5, .ref o6, .int (nI n), .int (nI k), .int (nI wn), .int (bb wt)])), (o1, .inl (cI, 8, .inl xs)), (o2, .inl (cI, 8, .inl ys)), (o3, .inl (cI, 8, .inl rf)), (o4, .inl (cI, 8, .inl bo)), (o5, .inl (cI, 4, .inl pr)), (o6, .inl (cI, 4, .inl bu))] := hD
  have hl : lv_has ls 3 [(0, .ref u0), (1, .int v), (2, .int what)] := hl
  have w_0 := hts (.fieldLink RX9 61 "UnlikeRoofs" "told" "LUnlikeRoofs$Town;") (List.mem_of_getElem? (i := 1) (by rfl))
  have hin_X9 : ∀ w ∈ wsX90, w ∈ wsX9_sort := fun _ h => List.mem_cons_of_mem _ (List.mem_append_left _ (List.mem_append_right _ h))
  have _h0 : True := trivial
  refine lv_aload_n hx hb dX9_sort_0 rfl (lv_at hl 0 rfl) ?_
  refine va_get (D := D) (ci := 8) (v := .ref o0) (C := RX9) (T := TX9) (N := 10) hx hb hts hin_X9 hown hK hP 0 rfl rfl 7 (by decide) w_0 (fun _ h9 => h9) rfl dX9_sort_1 ?_
  refine lv_iload_n hx hb dX9_sort_4 rfl (lv_at hl 1 rfl) ?_
  refine xcV_i (As := [.int v]) (rest := []) (wc := [(o0, .inr (7, [.ref o1, .ref o2, .ref o3, .ref o4, .ref o5, .ref o6, .int (nI n), .int (nI k), .int (nI wn), .int (bb wt)])), (o1, .inl (cI, 8, .inl xs)), (o2, .inl (cI, 8, .inl ys)), (o3, .inl (cI, 8, .inl rf)), (o4, .inl (cI, 8, .inl bo)), (o5, .inl (cI, 4, .inl pr)), (o6, .inl (cI, 4, .inl bu))]) (wr := [(u0, .inr (8, [.ref t0, .ref k0, .ref e0, .ref f0, .ref s0, .ref r0, .ref g0, .ref o0, .ref do0, .int dr]))]) (w3 := fun (u : Unit) => [(u0, .inr (8, [.ref t0, .ref k0, .ref e0, .ref f0, .ref s0, .ref r0, .ref g0, .ref o0, .ref do0, .int dr])), (o0, .inr (7, [.ref o1, .ref o2, .ref o3, .ref o4, .ref o5, .ref o6, .int (nI n), .int (nI k), .int (nI wn), .int (bb wt)])), (o1, .inl (cI, 8, .inl xs)), (o2, .inl (cI, 8, .inl ys)), (o3, .inl (cI, 8, .inl rf)), (o4, .inl (cI, 8, .inl bo)), (o5, .inl (cI, 4, .inl pr)), (o6, .inl (cI, 4, .inl bu))]) ⟨hx, hb, hml, hown, hts⟩ (c_X8_hasSort l D cI cZ cO H.size o0 o1 o2 o3 o4 o5 o6 xs ys rf bo pr bu n k (nI wn) wt v (by first | assumption | omega | rfl)) (cwV 1 hts gX9_sort_X8_hasSort rfl rfl rfl (by decide +kernel) ⟨Nat.le_of_ble_eq_true rfl, Nat.le_of_ble_eq_true rfl⟩) (xGdc gR gD gK gV) xGd0 (fun _ _ _ _ => trivial) hG hP hD hK hS hA [1, 2, 3, 4, 5, 6, 7] [0] [0, 1, 2, 3, 4, 5, 6, 7] rfl rfl rfl rfl rfl 1 rfl rfl rfl (fun _ => rfl) rfl rfl hl.1 (Nat.le_of_ble_eq_true rfl) dX9_sort_5 ⟨Nat.zero_le _, Nat.zero_le _⟩ (fun r u H locs hw hP hD hS => ?_)
  obtain ⟨rfl, hw⟩ := hw
  have hw_5 : True := hw
  have hP : va_P D vwCl [(u0, .inr (8, [.ref t0, .ref k0, .ref e0, .ref f0, .ref s0, .ref r0, .ref g0, .ref o0, .ref do0, .int dr])), (o0, .inr (7, [.ref o1, .ref o2, .ref o3, .ref o4, .ref o5, .ref o6, .int (nI n), .int (nI k), .int (nI wn), .int (bb wt)])), (o1, .inl (cI, 8, .inl xs)), (o2, .inl (cI, 8, .inl ys)), (o3, .inl (cI, 8, .inl rf)), (o4, .inl (cI, 8, .inl bo)), (o5, .inl (cI, 4, .inl pr)), (o6, .inl (cI, 4, .inl bu))] H := hP
  have hD : va_D A [(u0, .inr (8, [.ref t0, .ref k0, .ref e0, .ref f0, .ref s0, .ref r0, .ref g0, .ref o0, .ref do0, .int dr])), (o0, .inr (7, [.ref o1, .ref o2, .ref o3, .ref o4, .ref o5, .ref o6, .int (nI n), .int (nI k), .int (nI wn), .int (bb wt)])), (o1, .inl (cI, 8, .inl xs)), (o2, .inl (cI, 8, .inl ys)), (o3, .inl (cI, 8, .inl rf)), (o4, .inl (cI, 8, .inl bo)), (o5, .inl (cI, 4, .inl pr)), (o6, .inl (cI, 4, .inl bu))] := hD
  refine lv_if_eq (tgt := 18) hx hb dX9_sort_8 (by decide) (fun c_8 => ?_) (fun c_8 => ?_)
  ·
    have b_8 : (inb v k) = false := bb_eq0 c_8
    refine lv_iconst (v := (-1 : Int32)) hx hb dX9_sort_18 (by decide) ?_
    exact hret _ () _ _ _ _ (rfl) (⟨by rw [aSort, if_neg (bfne b_8)], trivial⟩) hP hD hS dX9_sort_19
  ·
    have b_8 : (inb v k) = true := bb_neq0 c_8
    obtain ⟨v1, hv1, rfl⟩ := inb_nI (by omega) b_8
    refine lv_iload_n hx hb dX9_sort_11 rfl (lv_at hl 2 rfl) ?_
    refine xcS_i (As := [.int what]) (rest := []) (wc := []) (wr := [(u0, .inr (8, [.ref t0, .ref k0, .ref e0, .ref f0, .ref s0, .ref r0, .ref g0, .ref o0, .ref do0, .int dr])), (o0, .inr (7, [.ref o1, .ref o2, .ref o3, .ref o4, .ref o5, .ref o6, .int (nI n), .int (nI k), .int (nI wn), .int (bb wt)])), (o1, .inl (cI, 8, .inl xs)), (o2, .inl (cI, 8, .inl ys)), (o3, .inl (cI, 8, .inl rf)), (o4, .inl (cI, 8, .inl bo)), (o5, .inl (cI, 4, .inl pr)), (o6, .inl (cI, 4, .inl bu))]) (w3 := fun (u : Unit) => [(u0, .inr (8, [.ref t0, .ref k0, .ref e0, .ref f0, .ref s0, .ref r0, .ref g0, .ref o0, .ref do0, .int dr])), (o0, .inr (7, [.ref o1, .ref o2, .ref o3, .ref o4, .ref o5, .ref o6, .int (nI n), .int (nI k), .int (nI wn), .int (bb wt)])), (o1, .inl (cI, 8, .inl xs)), (o2, .inl (cI, 8, .inl ys)), (o3, .inl (cI, 8, .inl rf)), (o4, .inl (cI, 8, .inl bo)), (o5, .inl (cI, 4, .inl pr)), (o6, .inl (cI, 4, .inl bu))]) ⟨hx, hb, hml, hown, hts⟩ (c_X9_isFlag l D cI cZ cO H.size gR gD gK gV what ) (va_cwS 1 hts gX9_sort_X9_isFlag rfl rfl rfl (by decide +kernel) ⟨Nat.le_of_ble_eq_true rfl, Nat.le_of_ble_eq_true rfl⟩) (xGdc gR gD gK gV) (xGdc gR gD gK gV) (fun _ _ _ h => h) hG hP hD hK hS hA [] [0, 1, 2, 3, 4, 5, 6, 7] [0, 1, 2, 3, 4, 5, 6, 7] rfl rfl rfl rfl rfl rfl (fun _ => rfl) rfl rfl hl.1 (Nat.le_of_ble_eq_true rfl) dX9_sort_12 ⟨Nat.zero_le _, Nat.zero_le _⟩ (fun r u H locs hw hP hD hS => ?_)
    obtain ⟨rfl, hw⟩ := hw
    have hw_12 : True := hw
    have hP : va_P D vwCl [(u0, .inr (8, [.ref t0, .ref k0, .ref e0, .ref f0, .ref s0, .ref r0, .ref g0, .ref o0, .ref do0, .int dr])), (o0, .inr (7, [.ref o1, .ref o2, .ref o3, .ref o4, .ref o5, .ref o6, .int (nI n), .int (nI k), .int (nI wn), .int (bb wt)])), (o1, .inl (cI, 8, .inl xs)), (o2, .inl (cI, 8, .inl ys)), (o3, .inl (cI, 8, .inl rf)), (o4, .inl (cI, 8, .inl bo)), (o5, .inl (cI, 4, .inl pr)), (o6, .inl (cI, 4, .inl bu))] H := hP
    have hD : va_D A [(u0, .inr (8, [.ref t0, .ref k0, .ref e0, .ref f0, .ref s0, .ref r0, .ref g0, .ref o0, .ref do0, .int dr])), (o0, .inr (7, [.ref o1, .ref o2, .ref o3, .ref o4, .ref o5, .ref o6, .int (nI n), .int (nI k), .int (nI wn), .int (bb wt)])), (o1, .inl (cI, 8, .inl xs)), (o2, .inl (cI, 8, .inl ys)), (o3, .inl (cI, 8, .inl rf)), (o4, .inl (cI, 8, .inl bo)), (o5, .inl (cI, 4, .inl pr)), (o6, .inl (cI, 4, .inl bu))] := hD
    refine lv_if_ne (tgt := 20) hx hb dX9_sort_15 (by decide) (fun c_15 => ?_) (fun c_15 => ?_)
    ·
      have b_15 : (inr what 0 1) = true := bb_neq0 c_15
      refine lv_iload_n hx hb dX9_sort_20 rfl (lv_at hl 2 rfl) ?_
      refine lv_if_ne (tgt := 35) hx hb dX9_sort_21 (by decide) (fun c_21 => ?_) (fun c_21 => ?_)
      ·
        refine lv_aload_n hx hb dX9_sort_35 rfl (lv_at hl 0 rfl) ?_
        refine va_get (D := D) (ci := 8) (v := .ref o0) (C := RX9) (T := TX9) (N := 10) hx hb hts hin_X9 hown hK hP 0 rfl rfl 7 (by decide) w_0 (fun _ h9 => h9) rfl dX9_sort_36 ?_
        refine lv_iload_n hx hb dX9_sort_39 rfl (lv_at hl 1 rfl) ?_
        refine xcV_i (As := [.int (nI v1)]) (rest := []) (wc := [(o0, .inr (7, [.ref o1, .ref o2, .ref o3, .ref o4, .ref o5, .ref o6, .int (nI n), .int (nI k), .int (nI wn), .int (bb wt)])), (o1, .inl (cI, 8, .inl xs)), (o2, .inl (cI, 8, .inl ys)), (o3, .inl (cI, 8, .inl rf)), (o4, .inl (cI, 8, .inl bo)), (o5, .inl (cI, 4, .inl pr)), (o6, .inl (cI, 4, .inl bu))]) (wr := [(u0, .inr (8, [.ref t0, .ref k0, .ref e0, .ref f0, .ref s0, .ref r0, .ref g0, .ref o0, .ref do0, .int dr]))]) (w3 := fun (u : Unit) => [(u0, .inr (8, [.ref t0, .ref k0, .ref e0, .ref f0, .ref s0, .ref r0, .ref g0, .ref o0, .ref do0, .int dr])), (o0, .inr (7, [.ref o1, .ref o2, .ref o3, .ref o4, .ref o5, .ref o6, .int (nI n), .int (nI k), .int (nI wn), .int (bb wt)])), (o1, .inl (cI, 8, .inl xs)), (o2, .inl (cI, 8, .inl ys)), (o3, .inl (cI, 8, .inl rf)), (o4, .inl (cI, 8, .inl bo)), (o5, .inl (cI, 4, .inl pr)), (o6, .inl (cI, 4, .inl bu))]) ⟨hx, hb, hml, hown, hts⟩ (c_X8_burnOf l D cI cZ cO H.size o0 o1 o2 o3 o4 o5 o6 xs ys rf bo pr bu n k (nI wn) wt (nI v1) (by first | assumption | omega | rfl)) (cwV 1 hts gX9_sort_X8_burnOf rfl rfl rfl (by decide +kernel) ⟨Nat.le_of_ble_eq_true rfl, Nat.le_of_ble_eq_true rfl⟩) (xGdc gR gD gK gV) xGd0 (fun _ _ _ _ => trivial) hG hP hD hK hS hA [1, 2, 3, 4, 5, 6, 7] [0] [0, 1, 2, 3, 4, 5, 6, 7] rfl rfl rfl rfl rfl 1 rfl rfl rfl (fun _ => rfl) rfl rfl hl.1 (Nat.le_of_ble_eq_true rfl) dX9_sort_40 ⟨Nat.zero_le _, Nat.zero_le _⟩ (fun r u H locs hw hP hD hS => ?_)
        obtain ⟨rfl, hw⟩ := hw
        have hw_40 : True := hw
        have hP : va_P D vwCl [(u0, .inr (8, [.ref t0, .ref k0, .ref e0, .ref f0, .ref s0, .ref r0, .ref g0, .ref o0, .ref do0, .int dr])), (o0, .inr (7, [.ref o1, .ref o2, .ref o3, .ref o4, .ref o5, .ref o6, .int (nI n), .int (nI k), .int (nI wn), .int (bb wt)])), (o1, .inl (cI, 8, .inl xs)), (o2, .inl (cI, 8, .inl ys)), (o3, .inl (cI, 8, .inl rf)), (o4, .inl (cI, 8, .inl bo)), (o5, .inl (cI, 4, .inl pr)), (o6, .inl (cI, 4, .inl bu))] H := hP
        have hD : va_D A [(u0, .inr (8, [.ref t0, .ref k0, .ref e0, .ref f0, .ref s0, .ref r0, .ref g0, .ref o0, .ref do0, .int dr])), (o0, .inr (7, [.ref o1, .ref o2, .ref o3, .ref o4, .ref o5, .ref o6, .int (nI n), .int (nI k), .int (nI wn), .int (bb wt)])), (o1, .inl (cI, 8, .inl xs)), (o2, .inl (cI, 8, .inl ys)), (o3, .inl (cI, 8, .inl rf)), (o4, .inl (cI, 8, .inl bo)), (o5, .inl (cI, 4, .inl pr)), (o6, .inl (cI, 4, .inl bu))] := hD
        exact hret _ () _ _ _ _ (rfl) (⟨by rw [aSort, if_pos b_8, if_pos b_15, prOf_t hv1 (by omega), tnI (show v1 < 2147483648 by omega)]; first | rw [if_pos c_21] | rw [if_neg c_21], trivial⟩) hP hD hS dX9_sort_43
      ·
        refine lv_aload_n hx hb dX9_sort_24 rfl (lv_at hl 0 rfl) ?_
        refine va_get (D := D) (ci := 8) (v := .ref o0) (C := RX9) (T := TX9) (N := 10) hx hb hts hin_X9 hown hK hP 0 rfl rfl 7 (by decide) w_0 (fun _ h9 => h9) rfl dX9_sort_25 ?_
        refine lv_iload_n hx hb dX9_sort_28 rfl (lv_at hl 1 rfl) ?_
        refine xcV_i (As := [.int (nI v1)]) (rest := []) (wc := [(o0, .inr (7, [.ref o1, .ref o2, .ref o3, .ref o4, .ref o5, .ref o6, .int (nI n), .int (nI k), .int (nI wn), .int (bb wt)])), (o1, .inl (cI, 8, .inl xs)), (o2, .inl (cI, 8, .inl ys)), (o3, .inl (cI, 8, .inl rf)), (o4, .inl (cI, 8, .inl bo)), (o5, .inl (cI, 4, .inl pr)), (o6, .inl (cI, 4, .inl bu))]) (wr := [(u0, .inr (8, [.ref t0, .ref k0, .ref e0, .ref f0, .ref s0, .ref r0, .ref g0, .ref o0, .ref do0, .int dr]))]) (w3 := fun (u : Unit) => [(u0, .inr (8, [.ref t0, .ref k0, .ref e0, .ref f0, .ref s0, .ref r0, .ref g0, .ref o0, .ref do0, .int dr])), (o0, .inr (7, [.ref o1, .ref o2, .ref o3, .ref o4, .ref o5, .ref o6, .int (nI n), .int (nI k), .int (nI wn), .int (bb wt)])), (o1, .inl (cI, 8, .inl xs)), (o2, .inl (cI, 8, .inl ys)), (o3, .inl (cI, 8, .inl rf)), (o4, .inl (cI, 8, .inl bo)), (o5, .inl (cI, 4, .inl pr)), (o6, .inl (cI, 4, .inl bu))]) ⟨hx, hb, hml, hown, hts⟩ (c_X8_priceOf l D cI cZ cO H.size o0 o1 o2 o3 o4 o5 o6 xs ys rf bo pr bu n k (nI wn) wt (nI v1) (by first | assumption | omega | rfl)) (cwV 1 hts gX9_sort_X8_priceOf rfl rfl rfl (by decide +kernel) ⟨Nat.le_of_ble_eq_true rfl, Nat.le_of_ble_eq_true rfl⟩) (xGdc gR gD gK gV) xGd0 (fun _ _ _ _ => trivial) hG hP hD hK hS hA [1, 2, 3, 4, 5, 6, 7] [0] [0, 1, 2, 3, 4, 5, 6, 7] rfl rfl rfl rfl rfl 1 rfl rfl rfl (fun _ => rfl) rfl rfl hl.1 (Nat.le_of_ble_eq_true rfl) dX9_sort_29 ⟨Nat.zero_le _, Nat.zero_le _⟩ (fun r u H locs hw hP hD hS => ?_)
        obtain ⟨rfl, hw⟩ := hw
        have hw_29 : True := hw
        have hP : va_P D vwCl [(u0, .inr (8, [.ref t0, .ref k0, .ref e0, .ref f0, .ref s0, .ref r0, .ref g0, .ref o0, .ref do0, .int dr])), (o0, .inr (7, [.ref o1, .ref o2, .ref o3, .ref o4, .ref o5, .ref o6, .int (nI n), .int (nI k), .int (nI wn), .int (bb wt)])), (o1, .inl (cI, 8, .inl xs)), (o2, .inl (cI, 8, .inl ys)), (o3, .inl (cI, 8, .inl rf)), (o4, .inl (cI, 8, .inl bo)), (o5, .inl (cI, 4, .inl pr)), (o6, .inl (cI, 4, .inl bu))] H := hP
        have hD : va_D A [(u0, .inr (8, [.ref t0, .ref k0, .ref e0, .ref f0, .ref s0, .ref r0, .ref g0, .ref o0, .ref do0, .int dr])), (o0, .inr (7, [.ref o1, .ref o2, .ref o3, .ref o4, .ref o5, .ref o6, .int (nI n), .int (nI k), .int (nI wn), .int (bb wt)])), (o1, .inl (cI, 8, .inl xs)), (o2, .inl (cI, 8, .inl ys)), (o3, .inl (cI, 8, .inl rf)), (o4, .inl (cI, 8, .inl bo)), (o5, .inl (cI, 4, .inl pr)), (o6, .inl (cI, 4, .inl bu))] := hD
        refine lv_goto (tgt := 43) hx hb dX9_sort_32 (by decide) ?_
        exact hret _ () _ _ _ _ (rfl) (⟨by rw [aSort, if_pos b_8, if_pos b_15, prOf_t hv1 (by omega), tnI (show v1 < 2147483648 by omega)]; first | rw [if_pos c_21] | rw [if_neg c_21], trivial⟩) hP hD hS dX9_sort_43
    ·
      have b_15 : (inr what 0 1) = false := bb_eq0 c_15
      refine lv_iconst (v := (-1 : Int32)) hx hb dX9_sort_18 (by decide) ?_
      exact hret _ () _ _ _ _ (rfl) (⟨by rw [aSort, if_pos b_8, if_neg (bfne b_15)], trivial⟩) hP hD hS dX9_sort_19

set_option maxHeartbeats 4000000 in
set_option maxRecDepth 100000 in
theorem c_X9_roof (l : Launch) (D : va_G) (cI cZ cO : ClassId) (sz : Nat) (gR : Nat) (gD : Nat) (gK : Nat → Nat) (gV : Nat → Nat) (u0 : Nat) (t0 : Nat) (k0 : Nat) (e0 : Nat) (f0 : Nat) (s0 : Nat) (r0 : Nat) (g0 : Nat) (o0 : Nat) (do0 : Nat) (dr : Int32) (o1 : Nat) (o2 : Nat) (o3 : Nat) (o4 : Nat) (o5 : Nat) (o6 : Nat) (xs : Nat → Int32) (ys : Nat → Int32) (rf : Nat → Int32) (bo : Nat → Int32) (pr : Nat → Int32) (bu : Nat → Int32) (n : Nat) (k : Nat) (wn : Nat) (wt : Bool) (h : Int32) (v : Int32) (hn : n ≤ 8) (hk : k ≤ 4) : xMi l yX9_roof wsX9_roof (2) (43) D (TY cI cZ cO) (xGc gR gD gK gV) [.ref u0, .int h, .int v] [(u0, .inr (8, [.ref t0, .ref k0, .ref e0, .ref f0, .ref s0, .ref r0, .ref g0, .ref o0, .ref do0, .int dr])), (o0, .inr (7, [.ref o1, .ref o2, .ref o3, .ref o4, .ref o5, .ref o6, .int (nI n), .int (nI k), .int (nI wn), .int (bb wt)])), (o1, .inl (cI, 8, .inl xs)), (o2, .inl (cI, 8, .inl ys)), (o3, .inl (cI, 8, .inl rf)), (o4, .inl (cI, 8, .inl bo)), (o5, .inl (cI, 4, .inl pr)), (o6, .inl (cI, 4, .inl bu))] sz (fun (rv_ : Int32) (u : (Nat → Int32)) => rv_ = (aRoof n k rf bo h v) ∧ (u = nRoof n k rf bo h v)) (fun (u : (Nat → Int32)) => [(u0, .inr (8, [.ref t0, .ref k0, .ref e0, .ref f0, .ref s0, .ref r0, .ref g0, .ref o0, .ref do0, .int dr])), (o0, .inr (7, [.ref o1, .ref o2, .ref o3, .ref o4, .ref o5, .ref o6, .int (nI n), .int (nI k), .int (nI wn), .int (bb wt)])), (o1, .inl (cI, 8, .inl xs)), (o2, .inl (cI, 8, .inl ys)), (o3, .inl (cI, 8, .inl u)), (o4, .inl (cI, 8, .inl bo)), (o5, .inl (cI, 4, .inl pr)), (o6, .inl (cI, 4, .inl bu))]) := by
  refine xMi.of (cc := cX9_roof) (maxL := 4) (by decide +kernel) rfl (Nat.le_of_ble_eq_true rfl) ?_
  intro p e s m below meth c A Q H hx hb hml hown hts hA hP hD hK hS hG hret ls hl
  have hown : s.vm.findClass RX9 = some m.cls := hown
  have hP : va_P D vwCl [(u0, .inr (8, [.ref t0, .ref k0, .ref e0, .ref f0, .ref s0, .ref r0, .ref g0, .ref o0, .ref do0, .int dr])), (o0, .inr (7, [.ref o1, .ref o2, .ref o3, .ref o4, .ref o5, .ref o6, .int (nI n), .int (nI k), .int (nI wn), .int (bb wt)])), (o1, .inl (cI, 8, .inl xs)), (o2, .inl (cI, 8, .inl ys)), (o3, .inl (cI, 8, .inl rf)), (o4, .inl (cI, 8, .inl bo)), (o5, .inl (cI, 4, .inl pr)), (o6, .inl (cI, 4, .inl bu))] H := hP
  have hD : va_D A [(u0, .inr (8, [.ref t0, .ref k0, .ref e0, .ref f0, .ref s0, .ref r0, .ref g0, .ref o0, .ref do0, .int dr])), (o0, .inr (7, [.ref o1, .ref o2, .ref o3, .ref o4, .ref o5, .ref o6, .int (nI n), .int (nI k), .int (nI wn), .int (bb wt)])), (o1, .inl (cI, 8, .inl xs)), (o2, .inl (cI, 8, .inl ys)), (o3, .inl (cI, 8, .inl rf)), (o4, .inl (cI, 8, .inl bo)), (o5, .inl (cI, 4, .inl pr)), (o6, .inl (cI, 4, .inl bu))] := hD
  have hl : lv_has ls 4 [(0, .ref u0), (1, .int h), (2, .int v)] := hl
  have w_0 := hts (.fieldLink RX9 61 "UnlikeRoofs" "told" "LUnlikeRoofs$Town;") (List.mem_of_getElem? (i := 1) (by rfl))
  have wn_0 : (Cond.fieldLinkNest RX9 112 "UnlikeRoofs$Town" "roofs" "[I" "UnlikeRoofs").before ([.ref u0, .int h, .int v] : List Value).toArray s = true := va_Nw.use rfl (hG.1 (.fieldLinkNest RX9 112 "UnlikeRoofs$Town" "roofs" "[I" "UnlikeRoofs") (List.mem_of_getElem? (i := 15) (by rfl)))
  have hin_X8 : ∀ w ∈ wsX80, w ∈ wsX9_roof := fun _ h => List.mem_cons_of_mem _ (List.mem_append_right _ h)
  have hin_X9 : ∀ w ∈ wsX90, w ∈ wsX9_roof := fun _ h => List.mem_cons_of_mem _ (List.mem_append_left _ (List.mem_append_right _ h))
  have _h0 : True := trivial
  refine lv_aload_n hx hb dX9_roof_0 rfl (lv_at hl 0 rfl) ?_
  refine va_get (D := D) (ci := 8) (v := .ref o0) (C := RX9) (T := TX9) (N := 10) hx hb hts hin_X9 hown hK hP 0 rfl rfl 7 (by decide) w_0 (fun _ h9 => h9) rfl dX9_roof_1 ?_
  refine lv_iload_n hx hb dX9_roof_4 rfl (lv_at hl 1 rfl) ?_
  refine xcV_i (As := [.int h]) (rest := []) (wc := [(o0, .inr (7, [.ref o1, .ref o2, .ref o3, .ref o4, .ref o5, .ref o6, .int (nI n), .int (nI k), .int (nI wn), .int (bb wt)])), (o1, .inl (cI, 8, .inl xs)), (o2, .inl (cI, 8, .inl ys)), (o3, .inl (cI, 8, .inl rf)), (o4, .inl (cI, 8, .inl bo)), (o5, .inl (cI, 4, .inl pr)), (o6, .inl (cI, 4, .inl bu))]) (wr := [(u0, .inr (8, [.ref t0, .ref k0, .ref e0, .ref f0, .ref s0, .ref r0, .ref g0, .ref o0, .ref do0, .int dr]))]) (w3 := fun (u : Unit) => [(u0, .inr (8, [.ref t0, .ref k0, .ref e0, .ref f0, .ref s0, .ref r0, .ref g0, .ref o0, .ref do0, .int dr])), (o0, .inr (7, [.ref o1, .ref o2, .ref o3, .ref o4, .ref o5, .ref o6, .int (nI n), .int (nI k), .int (nI wn), .int (bb wt)])), (o1, .inl (cI, 8, .inl xs)), (o2, .inl (cI, 8, .inl ys)), (o3, .inl (cI, 8, .inl rf)), (o4, .inl (cI, 8, .inl bo)), (o5, .inl (cI, 4, .inl pr)), (o6, .inl (cI, 4, .inl bu))]) ⟨hx, hb, hml, hown, hts⟩ (c_X8_hasHouse l D cI cZ cO H.size o0 o1 o2 o3 o4 o5 o6 xs ys rf bo pr bu n k (nI wn) wt h (by first | assumption | omega | rfl)) (cwV 1 hts gX9_roof_X8_hasHouse rfl rfl rfl (by decide +kernel) ⟨Nat.le_of_ble_eq_true rfl, Nat.le_of_ble_eq_true rfl⟩) (xGdc gR gD gK gV) xGd0 (fun _ _ _ _ => trivial) hG hP hD hK hS hA [1, 2, 3, 4, 5, 6, 7] [0] [0, 1, 2, 3, 4, 5, 6, 7] rfl rfl rfl rfl rfl 1 rfl rfl rfl (fun _ => rfl) rfl rfl hl.1 (Nat.le_of_ble_eq_true rfl) dX9_roof_5 ⟨Nat.zero_le _, Nat.zero_le _⟩ (fun r u H locs hw hP hD hS => ?_)
  obtain ⟨rfl, hw⟩ := hw
  have hw_5 : True := hw
  have hP : va_P D vwCl [(u0, .inr (8, [.ref t0, .ref k0, .ref e0, .ref f0, .ref s0, .ref r0, .ref g0, .ref o0, .ref do0, .int dr])), (o0, .inr (7, [.ref o1, .ref o2, .ref o3, .ref o4, .ref o5, .ref o6, .int (nI n), .int (nI k), .int (nI wn), .int (bb wt)])), (o1, .inl (cI, 8, .inl xs)), (o2, .inl (cI, 8, .inl ys)), (o3, .inl (cI, 8, .inl rf)), (o4, .inl (cI, 8, .inl bo)), (o5, .inl (cI, 4, .inl pr)), (o6, .inl (cI, 4, .inl bu))] H := hP
  have hD : va_D A [(u0, .inr (8, [.ref t0, .ref k0, .ref e0, .ref f0, .ref s0, .ref r0, .ref g0, .ref o0, .ref do0, .int dr])), (o0, .inr (7, [.ref o1, .ref o2, .ref o3, .ref o4, .ref o5, .ref o6, .int (nI n), .int (nI k), .int (nI wn), .int (bb wt)])), (o1, .inl (cI, 8, .inl xs)), (o2, .inl (cI, 8, .inl ys)), (o3, .inl (cI, 8, .inl rf)), (o4, .inl (cI, 8, .inl bo)), (o5, .inl (cI, 4, .inl pr)), (o6, .inl (cI, 4, .inl bu))] := hD
  refine lv_if_eq (tgt := 28) hx hb dX9_roof_8 (by decide) (fun c_8 => ?_) (fun c_8 => ?_)
  ·
    have b_8 : (inb h n) = false := bb_eq0 c_8
    refine lv_iconst (v := (-1 : Int32)) hx hb dX9_roof_28 (by decide) ?_
    exact hret _ (rf) _ _ _ _ (rfl) (⟨by simp only [aRoof, if_neg (bfne b_8)], by simp only [nRoof, if_neg (bfne b_8)]⟩) hP hD hS dX9_roof_29
  ·
    have b_8 : (inb h n) = true := bb_neq0 c_8
    obtain ⟨h1, hh1, rfl⟩ := inb_nI (by omega) b_8
    refine lv_iload_n hx hb dX9_roof_11 rfl (lv_at hl 2 rfl) ?_
    refine lv_bipush (v := (-9 : Int32)) hx hb dX9_roof_12 (by decide) ?_
    refine lv_icmp_eq (tgt := 30) hx hb dX9_roof_14 (by decide) (fun c_14 => ?_) (fun c_14 => ?_)
    ·
      refine lv_iload_n hx hb dX9_roof_30 rfl (lv_at hl 2 rfl) ?_
      refine lv_bipush (v := (-9 : Int32)) hx hb dX9_roof_31 (by decide) ?_
      refine lv_icmp_eq (tgt := 51) hx hb dX9_roof_33 (by decide) (fun c_33 => ?_) (fun c_33 => ?_)
      ·
        refine lv_aload_n hx hb dX9_roof_51 rfl (lv_at hl 0 rfl) ?_
        refine va_get (D := D) (ci := 8) (v := .ref o0) (C := RX9) (T := TX9) (N := 10) hx hb hts hin_X9 hown hK hP 0 rfl rfl 7 (by decide) w_0 (fun _ h9 => h9) rfl dX9_roof_52 ?_
        refine va_getN (D := D) (ci := 7) (v := .ref o3) (C := RX8) (T := TX8) (N := 10) hx hb hts hin_X8 hown hK hP 1 rfl rfl 2 (by decide) wn_0 (fun _ h9 => h9) rfl dX9_roof_55 ?_
        refine lv_iload_n hx hb dX9_roof_58 rfl (lv_at hl 1 rfl) ?_
        refine x_iald hx hb hK hP 4 0 rfl rfl (j := h1) (by omega) (by decide) dX9_roof_59 ?_
        refine lv_istore_n (lv' := [(3, .int (rf h1)), (0, .ref u0), (1, .int (nI h1)), (2, .int v)]) hx hb dX9_roof_60 rfl hl (by decide) rfl (fun ls hl => ?_)
        refine lv_aload_n hx hb dX9_roof_61 rfl (lv_at hl 1 rfl) ?_
        refine va_get (D := D) (ci := 8) (v := .ref o0) (C := RX9) (T := TX9) (N := 10) hx hb hts hin_X9 hown hK hP 0 rfl rfl 7 (by decide) w_0 (fun _ h9 => h9) rfl dX9_roof_62 ?_
        refine va_getN (D := D) (ci := 7) (v := .ref o3) (C := RX8) (T := TX8) (N := 10) hx hb hts hin_X8 hown hK hP 1 rfl rfl 2 (by decide) wn_0 (fun _ h9 => h9) rfl dX9_roof_65 ?_
        refine lv_iload_n hx hb dX9_roof_68 rfl (lv_at hl 2 rfl) ?_
        refine lv_iload_n hx hb dX9_roof_69 rfl (lv_at hl 3 rfl) ?_
        refine x_iast hx hb hK hP hD hS 4 0 rfl rfl (j := h1) (by omega) (by decide) dX9_roof_70 (fun H locs hP hD hS => ?_)
        have hP : va_P D vwCl [(u0, .inr (8, [.ref t0, .ref k0, .ref e0, .ref f0, .ref s0, .ref r0, .ref g0, .ref o0, .ref do0, .int dr])), (o0, .inr (7, [.ref o1, .ref o2, .ref o3, .ref o4, .ref o5, .ref o6, .int (nI n), .int (nI k), .int (nI wn), .int (bb wt)])), (o1, .inl (cI, 8, .inl xs)), (o2, .inl (cI, 8, .inl ys)), (o3, .inl (cI, 8, .inl (upd rf h1 v))), (o4, .inl (cI, 8, .inl bo)), (o5, .inl (cI, 4, .inl pr)), (o6, .inl (cI, 4, .inl bu))] H := hP
        have hD : va_D A [(u0, .inr (8, [.ref t0, .ref k0, .ref e0, .ref f0, .ref s0, .ref r0, .ref g0, .ref o0, .ref do0, .int dr])), (o0, .inr (7, [.ref o1, .ref o2, .ref o3, .ref o4, .ref o5, .ref o6, .int (nI n), .int (nI k), .int (nI wn), .int (bb wt)])), (o1, .inl (cI, 8, .inl xs)), (o2, .inl (cI, 8, .inl ys)), (o3, .inl (cI, 8, .inl (upd rf h1 v))), (o4, .inl (cI, 8, .inl bo)), (o5, .inl (cI, 4, .inl pr)), (o6, .inl (cI, 4, .inl bu))] := hD
        refine lv_iload_n hx hb dX9_roof_71 rfl (lv_at hl 0 rfl) ?_
        exact hret _ ((upd rf h1 v)) _ _ _ _ (rfl) (⟨by simp only [aRoof, if_pos b_8, if_pos c_14, if_pos c_33, tnI (show h1 < 2147483648 by omega)], by simp only [nRoof, if_pos b_8, if_pos c_14, if_pos c_33, tnI (show h1 < 2147483648 by omega)]⟩) hP hD hS dX9_roof_72
      ·
        exact absurd c_14 c_33
    ·
      refine lv_aload_n hx hb dX9_roof_17 rfl (lv_at hl 0 rfl) ?_
      refine va_get (D := D) (ci := 8) (v := .ref o0) (C := RX9) (T := TX9) (N := 10) hx hb hts hin_X9 hown hK hP 0 rfl rfl 7 (by decide) w_0 (fun _ h9 => h9) rfl dX9_roof_18 ?_
      refine lv_iload_n hx hb dX9_roof_21 rfl (lv_at hl 2 rfl) ?_
      refine xcV_i (As := [.int v]) (rest := []) (wc := [(o0, .inr (7, [.ref o1, .ref o2, .ref o3, .ref o4, .ref o5, .ref o6, .int (nI n), .int (nI k), .int (nI wn), .int (bb wt)])), (o1, .inl (cI, 8, .inl xs)), (o2, .inl (cI, 8, .inl ys)), (o3, .inl (cI, 8, .inl rf)), (o4, .inl (cI, 8, .inl bo)), (o5, .inl (cI, 4, .inl pr)), (o6, .inl (cI, 4, .inl bu))]) (wr := [(u0, .inr (8, [.ref t0, .ref k0, .ref e0, .ref f0, .ref s0, .ref r0, .ref g0, .ref o0, .ref do0, .int dr]))]) (w3 := fun (u : Unit) => [(u0, .inr (8, [.ref t0, .ref k0, .ref e0, .ref f0, .ref s0, .ref r0, .ref g0, .ref o0, .ref do0, .int dr])), (o0, .inr (7, [.ref o1, .ref o2, .ref o3, .ref o4, .ref o5, .ref o6, .int (nI n), .int (nI k), .int (nI wn), .int (bb wt)])), (o1, .inl (cI, 8, .inl xs)), (o2, .inl (cI, 8, .inl ys)), (o3, .inl (cI, 8, .inl rf)), (o4, .inl (cI, 8, .inl bo)), (o5, .inl (cI, 4, .inl pr)), (o6, .inl (cI, 4, .inl bu))]) ⟨hx, hb, hml, hown, hts⟩ (c_X8_hasSort l D cI cZ cO H.size o0 o1 o2 o3 o4 o5 o6 xs ys rf bo pr bu n k (nI wn) wt v (by first | assumption | omega | rfl)) (cwV 1 hts gX9_roof_X8_hasSort rfl rfl rfl (by decide +kernel) ⟨Nat.le_of_ble_eq_true rfl, Nat.le_of_ble_eq_true rfl⟩) (xGdc gR gD gK gV) xGd0 (fun _ _ _ _ => trivial) hG hP hD hK hS hA [1, 2, 3, 4, 5, 6, 7] [0] [0, 1, 2, 3, 4, 5, 6, 7] rfl rfl rfl rfl rfl 1 rfl rfl rfl (fun _ => rfl) rfl rfl hl.1 (Nat.le_of_ble_eq_true rfl) dX9_roof_22 ⟨Nat.zero_le _, Nat.zero_le _⟩ (fun r u H locs hw hP hD hS => ?_)
      obtain ⟨rfl, hw⟩ := hw
      have hw_22 : True := hw
      have hP : va_P D vwCl [(u0, .inr (8, [.ref t0, .ref k0, .ref e0, .ref f0, .ref s0, .ref r0, .ref g0, .ref o0, .ref do0, .int dr])), (o0, .inr (7, [.ref o1, .ref o2, .ref o3, .ref o4, .ref o5, .ref o6, .int (nI n), .int (nI k), .int (nI wn), .int (bb wt)])), (o1, .inl (cI, 8, .inl xs)), (o2, .inl (cI, 8, .inl ys)), (o3, .inl (cI, 8, .inl rf)), (o4, .inl (cI, 8, .inl bo)), (o5, .inl (cI, 4, .inl pr)), (o6, .inl (cI, 4, .inl bu))] H := hP
      have hD : va_D A [(u0, .inr (8, [.ref t0, .ref k0, .ref e0, .ref f0, .ref s0, .ref r0, .ref g0, .ref o0, .ref do0, .int dr])), (o0, .inr (7, [.ref o1, .ref o2, .ref o3, .ref o4, .ref o5, .ref o6, .int (nI n), .int (nI k), .int (nI wn), .int (bb wt)])), (o1, .inl (cI, 8, .inl xs)), (o2, .inl (cI, 8, .inl ys)), (o3, .inl (cI, 8, .inl rf)), (o4, .inl (cI, 8, .inl bo)), (o5, .inl (cI, 4, .inl pr)), (o6, .inl (cI, 4, .inl bu))] := hD
      refine lv_if_ne (tgt := 30) hx hb dX9_roof_25 (by decide) (fun c_25 => ?_) (fun c_25 => ?_)
      ·
        have b_25 : (inb v k) = true := bb_neq0 c_25
        refine lv_iload_n hx hb dX9_roof_30 rfl (lv_at hl 2 rfl) ?_
        refine lv_bipush (v := (-9 : Int32)) hx hb dX9_roof_31 (by decide) ?_
        refine lv_icmp_eq (tgt := 51) hx hb dX9_roof_33 (by decide) (fun c_33 => ?_) (fun c_33 => ?_)
        ·
          exact absurd c_33 c_14
        ·
          refine lv_aload_n hx hb dX9_roof_36 rfl (lv_at hl 0 rfl) ?_
          refine va_get (D := D) (ci := 8) (v := .ref o0) (C := RX9) (T := TX9) (N := 10) hx hb hts hin_X9 hown hK hP 0 rfl rfl 7 (by decide) w_0 (fun _ h9 => h9) rfl dX9_roof_37 ?_
          refine lv_iload_n hx hb dX9_roof_40 rfl (lv_at hl 1 rfl) ?_
          refine lv_iload_n hx hb dX9_roof_41 rfl (lv_at hl 2 rfl) ?_
          refine xcV_i (As := [.int (nI h1), .int v]) (rest := []) (wc := [(o0, .inr (7, [.ref o1, .ref o2, .ref o3, .ref o4, .ref o5, .ref o6, .int (nI n), .int (nI k), .int (nI wn), .int (bb wt)])), (o1, .inl (cI, 8, .inl xs)), (o2, .inl (cI, 8, .inl ys)), (o3, .inl (cI, 8, .inl rf)), (o4, .inl (cI, 8, .inl bo)), (o5, .inl (cI, 4, .inl pr)), (o6, .inl (cI, 4, .inl bu))]) (wr := [(u0, .inr (8, [.ref t0, .ref k0, .ref e0, .ref f0, .ref s0, .ref r0, .ref g0, .ref o0, .ref do0, .int dr]))]) (w3 := fun (u : Unit) => [(u0, .inr (8, [.ref t0, .ref k0, .ref e0, .ref f0, .ref s0, .ref r0, .ref g0, .ref o0, .ref do0, .int dr])), (o0, .inr (7, [.ref o1, .ref o2, .ref o3, .ref o4, .ref o5, .ref o6, .int (nI n), .int (nI k), .int (nI wn), .int (bb wt)])), (o1, .inl (cI, 8, .inl xs)), (o2, .inl (cI, 8, .inl ys)), (o3, .inl (cI, 8, .inl rf)), (o4, .inl (cI, 8, .inl bo)), (o5, .inl (cI, 4, .inl pr)), (o6, .inl (cI, 4, .inl bu))]) ⟨hx, hb, hml, hown, hts⟩ (c_X8_isBoundElse l D cI cZ cO H.size o0 o1 o2 o3 o4 o5 o6 xs ys rf bo pr bu n k (nI wn) wt h1 v (by first | assumption | omega | rfl) (by first | assumption | omega | rfl)) (cwV 2 hts gX9_roof_X8_isBoundElse rfl rfl rfl (by decide +kernel) ⟨Nat.le_of_ble_eq_true rfl, Nat.le_of_ble_eq_true rfl⟩) (xGdc gR gD gK gV) xGd0 (fun _ _ _ _ => trivial) hG hP hD hK hS hA [1, 2, 3, 4, 5, 6, 7] [0] [0, 1, 2, 3, 4, 5, 6, 7] rfl rfl rfl rfl rfl 1 rfl rfl rfl (fun _ => rfl) rfl rfl hl.1 (Nat.le_of_ble_eq_true rfl) dX9_roof_42 ⟨Nat.zero_le _, Nat.zero_le _⟩ (fun r u H locs hw hP hD hS => ?_)
          obtain ⟨rfl, hw⟩ := hw
          have hw_42 : True := hw
          have hP : va_P D vwCl [(u0, .inr (8, [.ref t0, .ref k0, .ref e0, .ref f0, .ref s0, .ref r0, .ref g0, .ref o0, .ref do0, .int dr])), (o0, .inr (7, [.ref o1, .ref o2, .ref o3, .ref o4, .ref o5, .ref o6, .int (nI n), .int (nI k), .int (nI wn), .int (bb wt)])), (o1, .inl (cI, 8, .inl xs)), (o2, .inl (cI, 8, .inl ys)), (o3, .inl (cI, 8, .inl rf)), (o4, .inl (cI, 8, .inl bo)), (o5, .inl (cI, 4, .inl pr)), (o6, .inl (cI, 4, .inl bu))] H := hP
          have hD : va_D A [(u0, .inr (8, [.ref t0, .ref k0, .ref e0, .ref f0, .ref s0, .ref r0, .ref g0, .ref o0, .ref do0, .int dr])), (o0, .inr (7, [.ref o1, .ref o2, .ref o3, .ref o4, .ref o5, .ref o6, .int (nI n), .int (nI k), .int (nI wn), .int (bb wt)])), (o1, .inl (cI, 8, .inl xs)), (o2, .inl (cI, 8, .inl ys)), (o3, .inl (cI, 8, .inl rf)), (o4, .inl (cI, 8, .inl bo)), (o5, .inl (cI, 4, .inl pr)), (o6, .inl (cI, 4, .inl bu))] := hD
          refine lv_if_eq (tgt := 51) hx hb dX9_roof_45 (by decide) (fun c_45 => ?_) (fun c_45 => ?_)
          ·
            have b_45 : (decide (¬ bo h1 = (-9) ∧ ¬ bo h1 = v)) = false := bb_eq0 c_45
            have b_45 := of_decide_eq_false b_45
            refine lv_aload_n hx hb dX9_roof_51 rfl (lv_at hl 0 rfl) ?_
            refine va_get (D := D) (ci := 8) (v := .ref o0) (C := RX9) (T := TX9) (N := 10) hx hb hts hin_X9 hown hK hP 0 rfl rfl 7 (by decide) w_0 (fun _ h9 => h9) rfl dX9_roof_52 ?_
            refine va_getN (D := D) (ci := 7) (v := .ref o3) (C := RX8) (T := TX8) (N := 10) hx hb hts hin_X8 hown hK hP 1 rfl rfl 2 (by decide) wn_0 (fun _ h9 => h9) rfl dX9_roof_55 ?_
            refine lv_iload_n hx hb dX9_roof_58 rfl (lv_at hl 1 rfl) ?_
            refine x_iald hx hb hK hP 4 0 rfl rfl (j := h1) (by omega) (by decide) dX9_roof_59 ?_
            refine lv_istore_n (lv' := [(3, .int (rf h1)), (0, .ref u0), (1, .int (nI h1)), (2, .int v)]) hx hb dX9_roof_60 rfl hl (by decide) rfl (fun ls hl => ?_)
            refine lv_aload_n hx hb dX9_roof_61 rfl (lv_at hl 1 rfl) ?_
            refine va_get (D := D) (ci := 8) (v := .ref o0) (C := RX9) (T := TX9) (N := 10) hx hb hts hin_X9 hown hK hP 0 rfl rfl 7 (by decide) w_0 (fun _ h9 => h9) rfl dX9_roof_62 ?_
            refine va_getN (D := D) (ci := 7) (v := .ref o3) (C := RX8) (T := TX8) (N := 10) hx hb hts hin_X8 hown hK hP 1 rfl rfl 2 (by decide) wn_0 (fun _ h9 => h9) rfl dX9_roof_65 ?_
            refine lv_iload_n hx hb dX9_roof_68 rfl (lv_at hl 2 rfl) ?_
            refine lv_iload_n hx hb dX9_roof_69 rfl (lv_at hl 3 rfl) ?_
            refine x_iast hx hb hK hP hD hS 4 0 rfl rfl (j := h1) (by omega) (by decide) dX9_roof_70 (fun H locs hP hD hS => ?_)
            have hP : va_P D vwCl [(u0, .inr (8, [.ref t0, .ref k0, .ref e0, .ref f0, .ref s0, .ref r0, .ref g0, .ref o0, .ref do0, .int dr])), (o0, .inr (7, [.ref o1, .ref o2, .ref o3, .ref o4, .ref o5, .ref o6, .int (nI n), .int (nI k), .int (nI wn), .int (bb wt)])), (o1, .inl (cI, 8, .inl xs)), (o2, .inl (cI, 8, .inl ys)), (o3, .inl (cI, 8, .inl (upd rf h1 v))), (o4, .inl (cI, 8, .inl bo)), (o5, .inl (cI, 4, .inl pr)), (o6, .inl (cI, 4, .inl bu))] H := hP
            have hD : va_D A [(u0, .inr (8, [.ref t0, .ref k0, .ref e0, .ref f0, .ref s0, .ref r0, .ref g0, .ref o0, .ref do0, .int dr])), (o0, .inr (7, [.ref o1, .ref o2, .ref o3, .ref o4, .ref o5, .ref o6, .int (nI n), .int (nI k), .int (nI wn), .int (bb wt)])), (o1, .inl (cI, 8, .inl xs)), (o2, .inl (cI, 8, .inl ys)), (o3, .inl (cI, 8, .inl (upd rf h1 v))), (o4, .inl (cI, 8, .inl bo)), (o5, .inl (cI, 4, .inl pr)), (o6, .inl (cI, 4, .inl bu))] := hD
            refine lv_iload_n hx hb dX9_roof_71 rfl (lv_at hl 0 rfl) ?_
            exact hret _ ((upd rf h1 v)) _ _ _ _ (rfl) (⟨by simp only [aRoof, if_pos b_8, if_neg c_14, if_pos b_25, tnI (show h1 < 2147483648 by omega)]; exact (roof_in b_45).symm, by simp only [nRoof, if_pos b_8, if_neg c_14, if_pos b_25, tnI (show h1 < 2147483648 by omega)]; exact (roof_in b_45).symm⟩) hP hD hS dX9_roof_72
          ·
            have b_45 : (decide (¬ bo h1 = (-9) ∧ ¬ bo h1 = v)) = true := bb_neq0 c_45
            have b_45 := of_decide_eq_true b_45
            refine lv_bipush (v := (-2 : Int32)) hx hb dX9_roof_48 (by decide) ?_
            exact hret _ (rf) _ _ _ _ (rfl) (⟨by simp only [aRoof, if_pos b_8, if_neg c_14, if_pos b_25, tnI (show h1 < 2147483648 by omega), if_neg b_45.1, if_neg b_45.2], by simp only [nRoof, if_pos b_8, if_neg c_14, if_pos b_25, tnI (show h1 < 2147483648 by omega), if_neg b_45.1, if_neg b_45.2]⟩) hP hD hS dX9_roof_50
      ·
        have b_25 : (inb v k) = false := bb_eq0 c_25
        refine lv_iconst (v := (-1 : Int32)) hx hb dX9_roof_28 (by decide) ?_
        exact hret _ (rf) _ _ _ _ (rfl) (⟨by simp only [aRoof, if_pos b_8, if_neg c_14, if_neg (bfne b_25), tnI (show h1 < 2147483648 by omega)], by simp only [nRoof, if_pos b_8, if_neg c_14, if_neg (bfne b_25), tnI (show h1 < 2147483648 by omega)]⟩) hP hD hS dX9_roof_29

set_option maxHeartbeats 4000000 in
set_option maxRecDepth 100000 in
theorem c_X9_wind (l : Launch) (D : va_G) (cI cZ cO : ClassId) (sz : Nat) (gR : Nat) (gD : Nat) (gK : Nat → Nat) (gV : Nat → Nat) (u0 : Nat) (t0 : Nat) (k0 : Nat) (e0 : Nat) (f0 : Nat) (s0 : Nat) (r0 : Nat) (g0 : Nat) (o0 : Nat) (do0 : Nat) (dr : Int32) (o1 : Nat) (o2 : Nat) (o3 : Nat) (o4 : Nat) (o5 : Nat) (o6 : Nat) (xs : Nat → Int32) (ys : Nat → Int32) (rf : Nat → Int32) (bo : Nat → Int32) (pr : Nat → Int32) (bu : Nat → Int32) (n : Nat) (k : Nat) (wn : Nat) (wt : Bool) (w : Int32)  : xMi l yX9_wind wsX9_wind (0) (0) D (TY cI cZ cO) (xGc gR gD gK gV) [.ref u0, .int w] [(u0, .inr (8, [.ref t0, .ref k0, .ref e0, .ref f0, .ref s0, .ref r0, .ref g0, .ref o0, .ref do0, .int dr])), (o0, .inr (7, [.ref o1, .ref o2, .ref o3, .ref o4, .ref o5, .ref o6, .int (nI n), .int (nI k), .int (nI wn), .int (bb wt)])), (o1, .inl (cI, 8, .inl xs)), (o2, .inl (cI, 8, .inl ys)), (o3, .inl (cI, 8, .inl rf)), (o4, .inl (cI, 8, .inl bo)), (o5, .inl (cI, 4, .inl pr)), (o6, .inl (cI, 4, .inl bu))] sz (fun (rv_ : Int32) (u : Nat) => rv_ = (aWind (nI wn) w) ∧ (nI u = (if inr w 0 4 = true then w else nI wn) ∧ (wn ≤ 4 → u ≤ 4))) (fun (u : Nat) => [(u0, .inr (8, [.ref t0, .ref k0, .ref e0, .ref f0, .ref s0, .ref r0, .ref g0, .ref o0, .ref do0, .int dr])), (o0, .inr (7, [.ref o1, .ref o2, .ref o3, .ref o4, .ref o5, .ref o6, .int (nI n), .int (nI k), .int (nI u), .int (bb wt)])), (o1, .inl (cI, 8, .inl xs)), (o2, .inl (cI, 8, .inl ys)), (o3, .inl (cI, 8, .inl rf)), (o4, .inl (cI, 8, .inl bo)), (o5, .inl (cI, 4, .inl pr)), (o6, .inl (cI, 4, .inl bu))]) := by
  refine xMi.of (cc := cX9_wind) (maxL := 3) (by decide +kernel) rfl (Nat.le_of_ble_eq_true rfl) ?_
  intro p e s m below meth c A Q H hx hb hml hown hts hA hP hD hK hS hG hret ls hl
  have hown : s.vm.findClass RX9 = some m.cls := hown
  have hP : va_P D vwCl [(u0, .inr (8, [.ref t0, .ref k0, .ref e0, .ref f0, .ref s0, .ref r0, .ref g0, .ref o0, .ref do0, .int dr])), (o0, .inr (7, [.ref o1, .ref o2, .ref o3, .ref o4, .ref o5, .ref o6, .int (nI n), .int (nI k), .int (nI wn), .int (bb wt)])), (o1, .inl (cI, 8, .inl xs)), (o2, .inl (cI, 8, .inl ys)), (o3, .inl (cI, 8, .inl rf)), (o4, .inl (cI, 8, .inl bo)), (o5, .inl (cI, 4, .inl pr)), (o6, .inl (cI, 4, .inl bu))] H := hP
  have hD : va_D A [(u0, .inr (8, [.ref t0, .ref k0, .ref e0, .ref f0, .ref s0, .ref r0, .ref g0, .ref o0, .ref do0, .int dr])), (o0, .inr (7, [.ref o1, .ref o2, .ref o3, .ref o4, .ref o5, .ref o6, .int (nI n), .int (nI k), .int (nI wn), .int (bb wt)])), (o1, .inl (cI, 8, .inl xs)), (o2, .inl (cI, 8, .inl ys)), (o3, .inl (cI, 8, .inl rf)), (o4, .inl (cI, 8, .inl bo)), (o5, .inl (cI, 4, .inl pr)), (o6, .inl (cI, 4, .inl bu))] := hD
  have hl : lv_has ls 3 [(0, .ref u0), (1, .int w)] := hl
  have w_0 := hts (.fieldLink RX9 61 "UnlikeRoofs" "told" "LUnlikeRoofs$Town;") (List.mem_of_getElem? (i := 1) (by rfl))
  have wn_0 : (Cond.fieldLinkNest RX9 143 "UnlikeRoofs$Town" "blowing" "I" "UnlikeRoofs").before ([.ref u0, .int w] : List Value).toArray s = true := va_Nw.use rfl (hG.1 (.fieldLinkNest RX9 143 "UnlikeRoofs$Town" "blowing" "I" "UnlikeRoofs") (List.mem_of_getElem? (i := 29) (by rfl)))
  have hin_X8 : ∀ w ∈ wsX80, w ∈ wsX9_wind := fun _ h => List.mem_cons_of_mem _ (List.mem_append_right _ h)
  have hin_X9 : ∀ w ∈ wsX90, w ∈ wsX9_wind := fun _ h => List.mem_cons_of_mem _ (List.mem_append_left _ (List.mem_append_right _ h))
  have _h0 : True := trivial
  refine lv_iload_n hx hb dX9_wind_0 rfl (lv_at hl 1 rfl) ?_
  refine lv_if_lt (tgt := 9) hx hb dX9_wind_1 (by decide) (fun c_1 => ?_) (fun c_1 => ?_)
  ·
    refine lv_iconst (v := (-1 : Int32)) hx hb dX9_wind_9 (by decide) ?_
    exact hret _ (wn) _ _ _ _ (rfl) (⟨by rw [aWind, if_neg (fun q => absurd (of_decide_eq_true q).1 (Int32.not_le.2 c_1))], by rw [if_neg (fun q => absurd (of_decide_eq_true q).1 (Int32.not_le.2 c_1))], fun q => q⟩) hP hD hS dX9_wind_10
  ·
    refine lv_iload_n hx hb dX9_wind_4 rfl (lv_at hl 1 rfl) ?_
    refine lv_iconst (v := (4 : Int32)) hx hb dX9_wind_5 (by decide) ?_
    refine lv_icmp_le (tgt := 11) hx hb dX9_wind_6 (by decide) (fun c_6 => ?_) (fun c_6 => ?_)
    ·
      have hin : inr w 0 4 = true := decide_eq_true ⟨Int32.not_lt.1 c_1, c_6⟩
      obtain ⟨w1, hw1, rfl⟩ := inr_04 hin
      refine lv_aload_n hx hb dX9_wind_11 rfl (lv_at hl 0 rfl) ?_
      refine va_get (D := D) (ci := 8) (v := .ref o0) (C := RX9) (T := TX9) (N := 10) hx hb hts hin_X9 hown hK hP 0 rfl rfl 7 (by decide) w_0 (fun _ h9 => h9) rfl dX9_wind_12 ?_
      refine va_getN (D := D) (ci := 7) (v := .int (nI wn)) (C := RX8) (T := TX8) (N := 10) hx hb hts hin_X8 hown hK hP 1 rfl rfl 8 (by decide) wn_0 (fun _ h9 => h9) rfl dX9_wind_15 ?_
      refine lv_istore_n (lv' := [(2, .int (nI wn)), (0, .ref u0), (1, .int (nI w1))]) hx hb dX9_wind_18 rfl hl (by decide) rfl (fun ls hl => ?_)
      refine lv_aload_n hx hb dX9_wind_19 rfl (lv_at hl 1 rfl) ?_
      refine va_get (D := D) (ci := 8) (v := .ref o0) (C := RX9) (T := TX9) (N := 10) hx hb hts hin_X9 hown hK hP 0 rfl rfl 7 (by decide) w_0 (fun _ h9 => h9) rfl dX9_wind_20 ?_
      refine lv_iload_n hx hb dX9_wind_23 rfl (lv_at hl 2 rfl) ?_
      refine va_putN (D := D) (ci := 7) (v := .int (nI w1)) (ty := .int) (C := RX8) (T := TX8) (N := 10) hx hb hts hin_X8 tyX8 tyX8_ok nmX8 hown hK hP hD hS 1 rfl rfl 8 (by decide) wn_0 (fun _ h9 => h9) rfl (by decide +kernel) rfl rfl (Nat.le_of_ble_eq_true rfl) dX9_wind_24 (fun H locs hP hD hS => ?_)
      have hP : va_P D vwCl [(u0, .inr (8, [.ref t0, .ref k0, .ref e0, .ref f0, .ref s0, .ref r0, .ref g0, .ref o0, .ref do0, .int dr])), (o0, .inr (7, [.ref o1, .ref o2, .ref o3, .ref o4, .ref o5, .ref o6, .int (nI n), .int (nI k), .int (nI w1), .int (bb wt)])), (o1, .inl (cI, 8, .inl xs)), (o2, .inl (cI, 8, .inl ys)), (o3, .inl (cI, 8, .inl rf)), (o4, .inl (cI, 8, .inl bo)), (o5, .inl (cI, 4, .inl pr)), (o6, .inl (cI, 4, .inl bu))] H := hP
      have hD : va_D A [(u0, .inr (8, [.ref t0, .ref k0, .ref e0, .ref f0, .ref s0, .ref r0, .ref g0, .ref o0, .ref do0, .int dr])), (o0, .inr (7, [.ref o1, .ref o2, .ref o3, .ref o4, .ref o5, .ref o6, .int (nI n), .int (nI k), .int (nI w1), .int (bb wt)])), (o1, .inl (cI, 8, .inl xs)), (o2, .inl (cI, 8, .inl ys)), (o3, .inl (cI, 8, .inl rf)), (o4, .inl (cI, 8, .inl bo)), (o5, .inl (cI, 4, .inl pr)), (o6, .inl (cI, 4, .inl bu))] := hD
      refine lv_iload_n hx hb dX9_wind_27 rfl (lv_at hl 0 rfl) ?_
      exact hret _ (w1) _ _ _ _ (rfl) (⟨by rw [aWind, if_pos hin], by rw [if_pos hin], fun _ => by omega⟩) hP hD hS dX9_wind_28
    ·
      refine lv_iconst (v := (-1 : Int32)) hx hb dX9_wind_9 (by decide) ?_
      exact hret _ (wn) _ _ _ _ (rfl) (⟨by rw [aWind, if_neg (fun q => absurd (of_decide_eq_true q).2 (Int32.not_le.2 (Int32.not_le.1 c_6)))], by rw [if_neg (fun q => absurd (of_decide_eq_true q).2 (Int32.not_le.2 (Int32.not_le.1 c_6)))], fun q => q⟩) hP hD hS dX9_wind_10

set_option maxHeartbeats 4000000 in
set_option maxRecDepth 100000 in
theorem c_X9_breaches (l : Launch) (D : va_G) (cI cZ cO : ClassId) (sz : Nat) (gR : Nat) (gD : Nat) (gK : Nat → Nat) (gV : Nat → Nat) (u0 : Nat) (t0 : Nat) (k0 : Nat) (e0 : Nat) (f0 : Nat) (s0 : Nat) (r0 : Nat) (g0 : Nat) (o0 : Nat) (do0 : Nat) (dr : Int32) (o1 : Nat) (o2 : Nat) (o3 : Nat) (o4 : Nat) (o5 : Nat) (o6 : Nat) (xs : Nat → Int32) (ys : Nat → Int32) (rf : Nat → Int32) (bo : Nat → Int32) (pr : Nat → Int32) (bu : Nat → Int32) (n : Nat) (k : Nat) (wn : Nat) (wt : Bool) (sp : Int32) (hn : n ≤ 8) (hc : cOK n xs ys) : xMi l yX9_breaches wsX9_breaches (4) (92) D (TY cI cZ cO) (xGc gR gD gK gV) [.ref u0, .int sp] [(u0, .inr (8, [.ref t0, .ref k0, .ref e0, .ref f0, .ref s0, .ref r0, .ref g0, .ref o0, .ref do0, .int dr])), (o0, .inr (7, [.ref o1, .ref o2, .ref o3, .ref o4, .ref o5, .ref o6, .int (nI n), .int (nI k), .int (nI wn), .int (bb wt)])), (o1, .inl (cI, 8, .inl xs)), (o2, .inl (cI, 8, .inl ys)), (o3, .inl (cI, 8, .inl rf)), (o4, .inl (cI, 8, .inl bo)), (o5, .inl (cI, 4, .inl pr)), (o6, .inl (cI, 4, .inl bu))] sz (fun (rv_ : Int32) (u : Unit) => rv_ = (aBreaches n xs ys rf sp) ∧ (True)) (fun (u : Unit) => [(u0, .inr (8, [.ref t0, .ref k0, .ref e0, .ref f0, .ref s0, .ref r0, .ref g0, .ref o0, .ref do0, .int dr])), (o0, .inr (7, [.ref o1, .ref o2, .ref o3, .ref o4, .ref o5, .ref o6, .int (nI n), .int (nI k), .int (nI wn), .int (bb wt)])), (o1, .inl (cI, 8, .inl xs)), (o2, .inl (cI, 8, .inl ys)), (o3, .inl (cI, 8, .inl rf)), (o4, .inl (cI, 8, .inl bo)), (o5, .inl (cI, 4, .inl pr)), (o6, .inl (cI, 4, .inl bu))]) := by
  refine xMi.of (cc := cX9_breaches) (maxL := 2) (by decide +kernel) rfl (Nat.le_of_ble_eq_true rfl) ?_
  intro p e s m below meth c A Q H hx hb hml hown hts hA hP hD hK hS hG hret ls hl
  have hown : s.vm.findClass RX9 = some m.cls := hown
  have hP : va_P D vwCl [(u0, .inr (8, [.ref t0, .ref k0, .ref e0, .ref f0, .ref s0, .ref r0, .ref g0, .ref o0, .ref do0, .int dr])), (o0, .inr (7, [.ref o1, .ref o2, .ref o3, .ref o4, .ref o5, .ref o6, .int (nI n), .int (nI k), .int (nI wn), .int (bb wt)])), (o1, .inl (cI, 8, .inl xs)), (o2, .inl (cI, 8, .inl ys)), (o3, .inl (cI, 8, .inl rf)), (o4, .inl (cI, 8, .inl bo)), (o5, .inl (cI, 4, .inl pr)), (o6, .inl (cI, 4, .inl bu))] H := hP
  have hD : va_D A [(u0, .inr (8, [.ref t0, .ref k0, .ref e0, .ref f0, .ref s0, .ref r0, .ref g0, .ref o0, .ref do0, .int dr])), (o0, .inr (7, [.ref o1, .ref o2, .ref o3, .ref o4, .ref o5, .ref o6, .int (nI n), .int (nI k), .int (nI wn), .int (bb wt)])), (o1, .inl (cI, 8, .inl xs)), (o2, .inl (cI, 8, .inl ys)), (o3, .inl (cI, 8, .inl rf)), (o4, .inl (cI, 8, .inl bo)), (o5, .inl (cI, 4, .inl pr)), (o6, .inl (cI, 4, .inl bu))] := hD
  have hl : lv_has ls 2 [(0, .ref u0), (1, .int sp)] := hl
  have w_0 := hts (.fieldLink RX9 61 "UnlikeRoofs" "told" "LUnlikeRoofs$Town;") (List.mem_of_getElem? (i := 1) (by rfl))
  have hin_X9 : ∀ w ∈ wsX90, w ∈ wsX9_breaches := fun _ h => List.mem_cons_of_mem _ (List.mem_append_left _ (List.mem_append_right _ h))
  have _h0 : True := trivial
  refine lv_iload_n hx hb dX9_breaches_0 rfl (lv_at hl 1 rfl) ?_
  refine xcS_i (As := [.int sp]) (rest := []) (wc := []) (wr := [(u0, .inr (8, [.ref t0, .ref k0, .ref e0, .ref f0, .ref s0, .ref r0, .ref g0, .ref o0, .ref do0, .int dr])), (o0, .inr (7, [.ref o1, .ref o2, .ref o3, .ref o4, .ref o5, .ref o6, .int (nI n), .int (nI k), .int (nI wn), .int (bb wt)])), (o1, .inl (cI, 8, .inl xs)), (o2, .inl (cI, 8, .inl ys)), (o3, .inl (cI, 8, .inl rf)), (o4, .inl (cI, 8, .inl bo)), (o5, .inl (cI, 4, .inl pr)), (o6, .inl (cI, 4, .inl bu))]) (w3 := fun (u : Unit) => [(u0, .inr (8, [.ref t0, .ref k0, .ref e0, .ref f0, .ref s0, .ref r0, .ref g0, .ref o0, .ref do0, .int dr])), (o0, .inr (7, [.ref o1, .ref o2, .ref o3, .ref o4, .ref o5, .ref o6, .int (nI n), .int (nI k), .int (nI wn), .int (bb wt)])), (o1, .inl (cI, 8, .inl xs)), (o2, .inl (cI, 8, .inl ys)), (o3, .inl (cI, 8, .inl rf)), (o4, .inl (cI, 8, .inl bo)), (o5, .inl (cI, 4, .inl pr)), (o6, .inl (cI, 4, .inl bu))]) ⟨hx, hb, hml, hown, hts⟩ (c_X9_isFlag l D cI cZ cO H.size gR gD gK gV sp ) (va_cwS 1 hts gX9_breaches_X9_isFlag rfl rfl rfl (by decide +kernel) ⟨Nat.le_of_ble_eq_true rfl, Nat.le_of_ble_eq_true rfl⟩) (xGdc gR gD gK gV) (xGdc gR gD gK gV) (fun _ _ _ h => h) hG hP hD hK hS hA [] [0, 1, 2, 3, 4, 5, 6, 7] [0, 1, 2, 3, 4, 5, 6, 7] rfl rfl rfl rfl rfl rfl (fun _ => rfl) rfl rfl hl.1 (Nat.le_of_ble_eq_true rfl) dX9_breaches_1 ⟨Nat.zero_le _, Nat.zero_le _⟩ (fun r u H locs hw hP hD hS => ?_)
  obtain ⟨rfl, hw⟩ := hw
  have hw_1 : True := hw
  have hP : va_P D vwCl [(u0, .inr (8, [.ref t0, .ref k0, .ref e0, .ref f0, .ref s0, .ref r0, .ref g0, .ref o0, .ref do0, .int dr])), (o0, .inr (7, [.ref o1, .ref o2, .ref o3, .ref o4, .ref o5, .ref o6, .int (nI n), .int (nI k), .int (nI wn), .int (bb wt)])), (o1, .inl (cI, 8, .inl xs)), (o2, .inl (cI, 8, .inl ys)), (o3, .inl (cI, 8, .inl rf)), (o4, .inl (cI, 8, .inl bo)), (o5, .inl (cI, 4, .inl pr)), (o6, .inl (cI, 4, .inl bu))] H := hP
  have hD : va_D A [(u0, .inr (8, [.ref t0, .ref k0, .ref e0, .ref f0, .ref s0, .ref r0, .ref g0, .ref o0, .ref do0, .int dr])), (o0, .inr (7, [.ref o1, .ref o2, .ref o3, .ref o4, .ref o5, .ref o6, .int (nI n), .int (nI k), .int (nI wn), .int (bb wt)])), (o1, .inl (cI, 8, .inl xs)), (o2, .inl (cI, 8, .inl ys)), (o3, .inl (cI, 8, .inl rf)), (o4, .inl (cI, 8, .inl bo)), (o5, .inl (cI, 4, .inl pr)), (o6, .inl (cI, 4, .inl bu))] := hD
  refine lv_if_eq (tgt := 18) hx hb dX9_breaches_4 (by decide) (fun c_4 => ?_) (fun c_4 => ?_)
  ·
    have b_4 : (inr sp 0 1) = false := bb_eq0 c_4
    refine lv_iconst (v := (-1 : Int32)) hx hb dX9_breaches_18 (by decide) ?_
    exact hret _ () _ _ _ _ (rfl) (⟨by rw [aBreaches, if_neg (bfne b_4)], trivial⟩) hP hD hS dX9_breaches_19
  ·
    have b_4 : (inr sp 0 1) = true := bb_neq0 c_4
    refine lv_aload_n hx hb dX9_breaches_7 rfl (lv_at hl 0 rfl) ?_
    refine va_get (D := D) (ci := 8) (v := .ref o0) (C := RX9) (T := TX9) (N := 10) hx hb hts hin_X9 hown hK hP 0 rfl rfl 7 (by decide) w_0 (fun _ h9 => h9) rfl dX9_breaches_8 ?_
    refine lv_iload_n hx hb dX9_breaches_11 rfl (lv_at hl 1 rfl) ?_
    refine xcV_i (As := [.int sp]) (rest := []) (wc := [(o0, .inr (7, [.ref o1, .ref o2, .ref o3, .ref o4, .ref o5, .ref o6, .int (nI n), .int (nI k), .int (nI wn), .int (bb wt)])), (o1, .inl (cI, 8, .inl xs)), (o2, .inl (cI, 8, .inl ys)), (o3, .inl (cI, 8, .inl rf)), (o4, .inl (cI, 8, .inl bo)), (o5, .inl (cI, 4, .inl pr)), (o6, .inl (cI, 4, .inl bu))]) (wr := [(u0, .inr (8, [.ref t0, .ref k0, .ref e0, .ref f0, .ref s0, .ref r0, .ref g0, .ref o0, .ref do0, .int dr]))]) (w3 := fun (u : Unit) => [(u0, .inr (8, [.ref t0, .ref k0, .ref e0, .ref f0, .ref s0, .ref r0, .ref g0, .ref o0, .ref do0, .int dr])), (o0, .inr (7, [.ref o1, .ref o2, .ref o3, .ref o4, .ref o5, .ref o6, .int (nI n), .int (nI k), .int (nI wn), .int (bb wt)])), (o1, .inl (cI, 8, .inl xs)), (o2, .inl (cI, 8, .inl ys)), (o3, .inl (cI, 8, .inl rf)), (o4, .inl (cI, 8, .inl bo)), (o5, .inl (cI, 4, .inl pr)), (o6, .inl (cI, 4, .inl bu))]) ⟨hx, hb, hml, hown, hts⟩ (c_X8_unlawfulPairs l D cI cZ cO H.size o0 o1 o2 o3 o4 o5 o6 xs ys rf bo pr bu n k (nI wn) wt sp (by first | assumption | omega | rfl)) (cwV 1 hts gX9_breaches_X8_unlawfulPairs rfl rfl rfl (by decide +kernel) ⟨Nat.le_of_ble_eq_true rfl, Nat.le_of_ble_eq_true rfl⟩) (xGdc gR gD gK gV) xGd0 (fun _ _ _ _ => trivial) hG hP hD hK hS hA [1, 2, 3, 4, 5, 6, 7] [0] [0, 1, 2, 3, 4, 5, 6, 7] rfl rfl rfl rfl rfl 1 rfl rfl rfl (fun _ => rfl) rfl rfl hl.1 (Nat.le_of_ble_eq_true rfl) dX9_breaches_12 ⟨Nat.zero_le _, Nat.zero_le _⟩ (fun r u H locs hw hP hD hS => ?_)
    obtain ⟨rfl, hw⟩ := hw
    have hw_12 : True := hw
    have hP : va_P D vwCl [(u0, .inr (8, [.ref t0, .ref k0, .ref e0, .ref f0, .ref s0, .ref r0, .ref g0, .ref o0, .ref do0, .int dr])), (o0, .inr (7, [.ref o1, .ref o2, .ref o3, .ref o4, .ref o5, .ref o6, .int (nI n), .int (nI k), .int (nI wn), .int (bb wt)])), (o1, .inl (cI, 8, .inl xs)), (o2, .inl (cI, 8, .inl ys)), (o3, .inl (cI, 8, .inl rf)), (o4, .inl (cI, 8, .inl bo)), (o5, .inl (cI, 4, .inl pr)), (o6, .inl (cI, 4, .inl bu))] H := hP
    have hD : va_D A [(u0, .inr (8, [.ref t0, .ref k0, .ref e0, .ref f0, .ref s0, .ref r0, .ref g0, .ref o0, .ref do0, .int dr])), (o0, .inr (7, [.ref o1, .ref o2, .ref o3, .ref o4, .ref o5, .ref o6, .int (nI n), .int (nI k), .int (nI wn), .int (bb wt)])), (o1, .inl (cI, 8, .inl xs)), (o2, .inl (cI, 8, .inl ys)), (o3, .inl (cI, 8, .inl rf)), (o4, .inl (cI, 8, .inl bo)), (o5, .inl (cI, 4, .inl pr)), (o6, .inl (cI, 4, .inl bu))] := hD
    refine lv_goto (tgt := 19) hx hb dX9_breaches_15 (by decide) ?_
    exact hret _ () _ _ _ _ (rfl) (⟨by rw [aBreaches, if_pos b_4, unl_br hn hc], trivial⟩) hP hD hS dX9_breaches_19

set_option maxHeartbeats 4000000 in
set_option maxRecDepth 100000 in
theorem c_X9_count (l : Launch) (D : va_G) (cI cZ cO : ClassId) (sz : Nat) (gR : Nat) (gD : Nat) (gK : Nat → Nat) (gV : Nat → Nat) (u0 : Nat) (t0 : Nat) (k0 : Nat) (e0 : Nat) (f0 : Nat) (s0 : Nat) (r0 : Nat) (g0 : Nat) (o0 : Nat) (do0 : Nat) (dr : Int32) (o1 : Nat) (o2 : Nat) (o3 : Nat) (o4 : Nat) (o5 : Nat) (o6 : Nat) (xs : Nat → Int32) (ys : Nat → Int32) (rf : Nat → Int32) (bo : Nat → Int32) (pr : Nat → Int32) (bu : Nat → Int32) (n : Nat) (k : Nat) (wn : Nat) (wt : Bool) (s1 : Nat) (s2 : Nat) (sn : Nat) (sh : Nat → Int32) (sm : Nat → Int32) (t1 : Nat) (ty : Nat) (bt : Nat → Nat) (what : Int32) (hn : n ≤ 8) (hc : cOK n xs ys) : xMi l yX9_count wsX9_count (4) (90) D (TY cI cZ cO) (xGc gR gD gK gV) [.ref u0, .int what] [(u0, .inr (8, [.ref t0, .ref k0, .ref e0, .ref f0, .ref s0, .ref r0, .ref g0, .ref o0, .ref do0, .int dr])), (o0, .inr (7, [.ref o1, .ref o2, .ref o3, .ref o4, .ref o5, .ref o6, .int (nI n), .int (nI k), .int (nI wn), .int (bb wt)])), (o1, .inl (cI, 8, .inl xs)), (o2, .inl (cI, 8, .inl ys)), (o3, .inl (cI, 8, .inl rf)), (o4, .inl (cI, 8, .inl bo)), (o5, .inl (cI, 4, .inl pr)), (o6, .inl (cI, 4, .inl bu)), (s0, .inr (4, [.ref s1, .ref s2, .int (nI sn)])), (s1, .inl (cI, 8, .inl sh)), (s2, .inl (cI, 8, .inl sm)), (t0, .inr (5, [.ref t1, .int (nI ty)])), (t1, .inl (cI, 300, .inl (rI bt)))] sz (fun (rv_ : Int32) (u : Unit) => rv_ = (aCount n k ty xs ys rf (nI sn) what) ∧ (True)) (fun (u : Unit) => [(u0, .inr (8, [.ref t0, .ref k0, .ref e0, .ref f0, .ref s0, .ref r0, .ref g0, .ref o0, .ref do0, .int dr])), (o0, .inr (7, [.ref o1, .ref o2, .ref o3, .ref o4, .ref o5, .ref o6, .int (nI n), .int (nI k), .int (nI wn), .int (bb wt)])), (o1, .inl (cI, 8, .inl xs)), (o2, .inl (cI, 8, .inl ys)), (o3, .inl (cI, 8, .inl rf)), (o4, .inl (cI, 8, .inl bo)), (o5, .inl (cI, 4, .inl pr)), (o6, .inl (cI, 4, .inl bu)), (s0, .inr (4, [.ref s1, .ref s2, .int (nI sn)])), (s1, .inl (cI, 8, .inl sh)), (s2, .inl (cI, 8, .inl sm)), (t0, .inr (5, [.ref t1, .int (nI ty)])), (t1, .inl (cI, 300, .inl (rI bt)))]) := by
  refine xMi.of (cc := cX9_count) (maxL := 2) (by decide +kernel) rfl (Nat.le_of_ble_eq_true rfl) ?_
  intro p e s m below meth c A Q H hx hb hml hown hts hA hP hD hK hS hG hret ls hl
  have hown : s.vm.findClass RX9 = some m.cls := hown
  have hP : va_P D vwCl [(u0, .inr (8, [.ref t0, .ref k0, .ref e0, .ref f0, .ref s0, .ref r0, .ref g0, .ref o0, .ref do0, .int dr])), (o0, .inr (7, [.ref o1, .ref o2, .ref o3, .ref o4, .ref o5, .ref o6, .int (nI n), .int (nI k), .int (nI wn), .int (bb wt)])), (o1, .inl (cI, 8, .inl xs)), (o2, .inl (cI, 8, .inl ys)), (o3, .inl (cI, 8, .inl rf)), (o4, .inl (cI, 8, .inl bo)), (o5, .inl (cI, 4, .inl pr)), (o6, .inl (cI, 4, .inl bu)), (s0, .inr (4, [.ref s1, .ref s2, .int (nI sn)])), (s1, .inl (cI, 8, .inl sh)), (s2, .inl (cI, 8, .inl sm)), (t0, .inr (5, [.ref t1, .int (nI ty)])), (t1, .inl (cI, 300, .inl (rI bt)))] H := hP
  have hD : va_D A [(u0, .inr (8, [.ref t0, .ref k0, .ref e0, .ref f0, .ref s0, .ref r0, .ref g0, .ref o0, .ref do0, .int dr])), (o0, .inr (7, [.ref o1, .ref o2, .ref o3, .ref o4, .ref o5, .ref o6, .int (nI n), .int (nI k), .int (nI wn), .int (bb wt)])), (o1, .inl (cI, 8, .inl xs)), (o2, .inl (cI, 8, .inl ys)), (o3, .inl (cI, 8, .inl rf)), (o4, .inl (cI, 8, .inl bo)), (o5, .inl (cI, 4, .inl pr)), (o6, .inl (cI, 4, .inl bu)), (s0, .inr (4, [.ref s1, .ref s2, .int (nI sn)])), (s1, .inl (cI, 8, .inl sh)), (s2, .inl (cI, 8, .inl sm)), (t0, .inr (5, [.ref t1, .int (nI ty)])), (t1, .inl (cI, 300, .inl (rI bt)))] := hD
  have hl : lv_has ls 2 [(0, .ref u0), (1, .int what)] := hl
  have w_0 := hts (.fieldLink RX9 61 "UnlikeRoofs" "told" "LUnlikeRoofs$Town;") (List.mem_of_getElem? (i := 1) (by rfl))
  have w_1 := hts (.fieldLink RX9 40 "UnlikeRoofs" "seen" "LUnlikeRoofs$Seen;") (List.mem_of_getElem? (i := 2) (by rfl))
  have w_2 := hts (.fieldLink RX9 12 "UnlikeRoofs" "text" "LUnlikeRoofs$Text;") (List.mem_of_getElem? (i := 3) (by rfl))
  have wn_0 : (Cond.fieldLinkNest RX9 179 "UnlikeRoofs$Town" "houses" "I" "UnlikeRoofs").before ([.ref u0, .int what] : List Value).toArray s = true := va_Nw.use rfl (hG.1 (.fieldLinkNest RX9 179 "UnlikeRoofs$Town" "houses" "I" "UnlikeRoofs") (List.mem_of_getElem? (i := 22) (by rfl)))
  have wn_1 : (Cond.fieldLinkNest RX9 230 "UnlikeRoofs$Town" "sorts" "I" "UnlikeRoofs").before ([.ref u0, .int what] : List Value).toArray s = true := va_Nw.use rfl (hG.1 (.fieldLinkNest RX9 230 "UnlikeRoofs$Town" "sorts" "I" "UnlikeRoofs") (List.mem_of_getElem? (i := 25) (by rfl)))
  have wn_2 : (Cond.fieldLinkNest RX9 196 "UnlikeRoofs$Seen" "size" "I" "UnlikeRoofs").before ([.ref u0, .int what] : List Value).toArray s = true := va_Nw.use rfl (hG.1 (.fieldLinkNest RX9 196 "UnlikeRoofs$Seen" "size" "I" "UnlikeRoofs") (List.mem_of_getElem? (i := 5) (by rfl)))
  have wn_3 : (Cond.fieldLinkNest RX9 76 "UnlikeRoofs$Text" "length" "I" "UnlikeRoofs").before ([.ref u0, .int what] : List Value).toArray s = true := va_Nw.use rfl (hG.1 (.fieldLinkNest RX9 76 "UnlikeRoofs$Text" "length" "I" "UnlikeRoofs") (List.mem_of_getElem? (i := 0) (by rfl)))
  have hin_X5 : ∀ w ∈ wsX50, w ∈ wsX9_count := fun _ h => List.mem_cons_of_mem _ (List.mem_append_left _ (List.mem_append_right _ h))
  have hin_X6 : ∀ w ∈ wsX60, w ∈ wsX9_count := fun _ h => List.mem_cons_of_mem _ (List.mem_append_right _ h)
  have hin_X8 : ∀ w ∈ wsX80, w ∈ wsX9_count := fun _ h => List.mem_cons_of_mem _ (List.mem_append_left _ (List.mem_append_left _ (List.mem_append_right _ h)))
  have hin_X9 : ∀ w ∈ wsX90, w ∈ wsX9_count := fun _ h => List.mem_cons_of_mem _ (List.mem_append_left _ (List.mem_append_left _ (List.mem_append_left _ (List.mem_append_right _ h))))
  have _h0 : True := trivial
  refine lv_iload_n hx hb dX9_count_0 rfl (lv_at hl 1 rfl) ?_
  by_cases c_1_0 : what = 0
  ·
    refine lv_tableIn (off := 39) (tgt := 40) hx hb dX9_count_1 (by rw [c_1_0]; decide) (by rw [c_1_0]; decide) (by rw [c_1_0]; rfl) (by decide) ?_
    refine lv_aload_n hx hb dX9_count_40 rfl (lv_at hl 0 rfl) ?_
    refine va_get (D := D) (ci := 8) (v := .ref o0) (C := RX9) (T := TX9) (N := 10) hx hb hts hin_X9 hown hK hP 0 rfl rfl 7 (by decide) w_0 (fun _ h9 => h9) rfl dX9_count_41 ?_
    refine va_getN (D := D) (ci := 7) (v := .int (nI n)) (C := RX8) (T := TX8) (N := 10) hx hb hts hin_X8 hown hK hP 1 rfl rfl 6 (by decide) wn_0 (fun _ h9 => h9) rfl dX9_count_44 ?_
    exact hret _ () _ _ _ _ (rfl) (⟨by first | (rw [c_1_0]; rfl) | (rw [c_1_1]; rfl) | (rw [c_1_2, popc_cnt hn, cnt_not]; rfl) | (rw [c_1_3, sumN_congr (fun h hh => tch_cnt hn hc hh)]; rfl) | (rw [c_1_4]; rfl) | (rw [c_1_5]; rfl) | rw [aCount, if_neg c_1_0, if_neg c_1_1, if_neg c_1_2, if_neg c_1_3, if_neg c_1_4, if_neg c_1_5], trivial⟩) hP hD hS dX9_count_47
  by_cases c_1_1 : what = 1
  ·
    refine lv_tableIn (off := 47) (tgt := 48) hx hb dX9_count_1 (by rw [c_1_1]; decide) (by rw [c_1_1]; decide) (by rw [c_1_1]; rfl) (by decide) ?_
    refine lv_aload_n hx hb dX9_count_48 rfl (lv_at hl 0 rfl) ?_
    refine va_get (D := D) (ci := 8) (v := .ref o0) (C := RX9) (T := TX9) (N := 10) hx hb hts hin_X9 hown hK hP 0 rfl rfl 7 (by decide) w_0 (fun _ h9 => h9) rfl dX9_count_49 ?_
    refine va_getN (D := D) (ci := 7) (v := .int (nI k)) (C := RX8) (T := TX8) (N := 10) hx hb hts hin_X8 hown hK hP 1 rfl rfl 7 (by decide) wn_1 (fun _ h9 => h9) rfl dX9_count_52 ?_
    exact hret _ () _ _ _ _ (rfl) (⟨by first | (rw [c_1_0]; rfl) | (rw [c_1_1]; rfl) | (rw [c_1_2, popc_cnt hn, cnt_not]; rfl) | (rw [c_1_3, sumN_congr (fun h hh => tch_cnt hn hc hh)]; rfl) | (rw [c_1_4]; rfl) | (rw [c_1_5]; rfl) | rw [aCount, if_neg c_1_0, if_neg c_1_1, if_neg c_1_2, if_neg c_1_3, if_neg c_1_4, if_neg c_1_5], trivial⟩) hP hD hS dX9_count_55
  by_cases c_1_2 : what = 2
  ·
    refine lv_tableIn (off := 55) (tgt := 56) hx hb dX9_count_1 (by rw [c_1_2]; decide) (by rw [c_1_2]; decide) (by rw [c_1_2]; rfl) (by decide) ?_
    refine lv_aload_n hx hb dX9_count_56 rfl (lv_at hl 0 rfl) ?_
    refine va_get (D := D) (ci := 8) (v := .ref o0) (C := RX9) (T := TX9) (N := 10) hx hb hts hin_X9 hown hK hP 0 rfl rfl 7 (by decide) w_0 (fun _ h9 => h9) rfl dX9_count_57 ?_
    refine xcV_i (As := []) (rest := []) (wc := [(o0, .inr (7, [.ref o1, .ref o2, .ref o3, .ref o4, .ref o5, .ref o6, .int (nI n), .int (nI k), .int (nI wn), .int (bb wt)])), (o1, .inl (cI, 8, .inl xs)), (o2, .inl (cI, 8, .inl ys)), (o3, .inl (cI, 8, .inl rf)), (o4, .inl (cI, 8, .inl bo)), (o5, .inl (cI, 4, .inl pr)), (o6, .inl (cI, 4, .inl bu))]) (wr := [(u0, .inr (8, [.ref t0, .ref k0, .ref e0, .ref f0, .ref s0, .ref r0, .ref g0, .ref o0, .ref do0, .int dr])), (s0, .inr (4, [.ref s1, .ref s2, .int (nI sn)])), (s1, .inl (cI, 8, .inl sh)), (s2, .inl (cI, 8, .inl sm)), (t0, .inr (5, [.ref t1, .int (nI ty)])), (t1, .inl (cI, 300, .inl (rI bt)))]) (w3 := fun (u : Unit) => [(u0, .inr (8, [.ref t0, .ref k0, .ref e0, .ref f0, .ref s0, .ref r0, .ref g0, .ref o0, .ref do0, .int dr])), (o0, .inr (7, [.ref o1, .ref o2, .ref o3, .ref o4, .ref o5, .ref o6, .int (nI n), .int (nI k), .int (nI wn), .int (bb wt)])), (o1, .inl (cI, 8, .inl xs)), (o2, .inl (cI, 8, .inl ys)), (o3, .inl (cI, 8, .inl rf)), (o4, .inl (cI, 8, .inl bo)), (o5, .inl (cI, 4, .inl pr)), (o6, .inl (cI, 4, .inl bu)), (s0, .inr (4, [.ref s1, .ref s2, .int (nI sn)])), (s1, .inl (cI, 8, .inl sh)), (s2, .inl (cI, 8, .inl sm)), (t0, .inr (5, [.ref t1, .int (nI ty)])), (t1, .inl (cI, 300, .inl (rI bt)))]) ⟨hx, hb, hml, hown, hts⟩ (c_X8_howManyRoofs l D cI cZ cO H.size o0 o1 o2 o3 o4 o5 o6 xs ys rf bo pr bu n k (nI wn) wt (by first | assumption | omega | rfl)) (cwV 0 hts gX9_count_X8_howManyRoofs rfl rfl rfl (by decide +kernel) ⟨Nat.le_of_ble_eq_true rfl, Nat.le_of_ble_eq_true rfl⟩) (xGdc gR gD gK gV) xGd0 (fun _ _ _ _ => trivial) hG hP hD hK hS hA [1, 2, 3, 4, 5, 6, 7] [0, 8, 9, 10, 11, 12] [0, 6, 7, 8, 9, 10, 11, 12, 1, 2, 3, 4, 5] rfl rfl rfl rfl rfl 1 rfl rfl rfl (fun _ => rfl) rfl rfl hl.1 (Nat.le_of_ble_eq_true rfl) dX9_count_60 ⟨Nat.zero_le _, Nat.zero_le _⟩ (fun r u H locs hw hP hD hS => ?_)
    obtain ⟨rfl, hw⟩ := hw
    have hw_60 : True := hw
    have hP : va_P D vwCl [(u0, .inr (8, [.ref t0, .ref k0, .ref e0, .ref f0, .ref s0, .ref r0, .ref g0, .ref o0, .ref do0, .int dr])), (o0, .inr (7, [.ref o1, .ref o2, .ref o3, .ref o4, .ref o5, .ref o6, .int (nI n), .int (nI k), .int (nI wn), .int (bb wt)])), (o1, .inl (cI, 8, .inl xs)), (o2, .inl (cI, 8, .inl ys)), (o3, .inl (cI, 8, .inl rf)), (o4, .inl (cI, 8, .inl bo)), (o5, .inl (cI, 4, .inl pr)), (o6, .inl (cI, 4, .inl bu)), (s0, .inr (4, [.ref s1, .ref s2, .int (nI sn)])), (s1, .inl (cI, 8, .inl sh)), (s2, .inl (cI, 8, .inl sm)), (t0, .inr (5, [.ref t1, .int (nI ty)])), (t1, .inl (cI, 300, .inl (rI bt)))] H := hP
    have hD : va_D A [(u0, .inr (8, [.ref t0, .ref k0, .ref e0, .ref f0, .ref s0, .ref r0, .ref g0, .ref o0, .ref do0, .int dr])), (o0, .inr (7, [.ref o1, .ref o2, .ref o3, .ref o4, .ref o5, .ref o6, .int (nI n), .int (nI k), .int (nI wn), .int (bb wt)])), (o1, .inl (cI, 8, .inl xs)), (o2, .inl (cI, 8, .inl ys)), (o3, .inl (cI, 8, .inl rf)), (o4, .inl (cI, 8, .inl bo)), (o5, .inl (cI, 4, .inl pr)), (o6, .inl (cI, 4, .inl bu)), (s0, .inr (4, [.ref s1, .ref s2, .int (nI sn)])), (s1, .inl (cI, 8, .inl sh)), (s2, .inl (cI, 8, .inl sm)), (t0, .inr (5, [.ref t1, .int (nI ty)])), (t1, .inl (cI, 300, .inl (rI bt)))] := hD
    exact hret _ () _ _ _ _ (rfl) (⟨by first | (rw [c_1_0]; rfl) | (rw [c_1_1]; rfl) | (rw [c_1_2, popc_cnt hn, cnt_not]; rfl) | (rw [c_1_3, sumN_congr (fun h hh => tch_cnt hn hc hh)]; rfl) | (rw [c_1_4]; rfl) | (rw [c_1_5]; rfl) | rw [aCount, if_neg c_1_0, if_neg c_1_1, if_neg c_1_2, if_neg c_1_3, if_neg c_1_4, if_neg c_1_5], trivial⟩) hP hD hS dX9_count_63
  by_cases c_1_3 : what = 3
  ·
    refine lv_tableIn (off := 63) (tgt := 64) hx hb dX9_count_1 (by rw [c_1_3]; decide) (by rw [c_1_3]; decide) (by rw [c_1_3]; rfl) (by decide) ?_
    refine lv_aload_n hx hb dX9_count_64 rfl (lv_at hl 0 rfl) ?_
    refine va_get (D := D) (ci := 8) (v := .ref o0) (C := RX9) (T := TX9) (N := 10) hx hb hts hin_X9 hown hK hP 0 rfl rfl 7 (by decide) w_0 (fun _ h9 => h9) rfl dX9_count_65 ?_
    refine xcV_i (As := []) (rest := []) (wc := [(o0, .inr (7, [.ref o1, .ref o2, .ref o3, .ref o4, .ref o5, .ref o6, .int (nI n), .int (nI k), .int (nI wn), .int (bb wt)])), (o1, .inl (cI, 8, .inl xs)), (o2, .inl (cI, 8, .inl ys)), (o3, .inl (cI, 8, .inl rf)), (o4, .inl (cI, 8, .inl bo)), (o5, .inl (cI, 4, .inl pr)), (o6, .inl (cI, 4, .inl bu))]) (wr := [(u0, .inr (8, [.ref t0, .ref k0, .ref e0, .ref f0, .ref s0, .ref r0, .ref g0, .ref o0, .ref do0, .int dr])), (s0, .inr (4, [.ref s1, .ref s2, .int (nI sn)])), (s1, .inl (cI, 8, .inl sh)), (s2, .inl (cI, 8, .inl sm)), (t0, .inr (5, [.ref t1, .int (nI ty)])), (t1, .inl (cI, 300, .inl (rI bt)))]) (w3 := fun (u : Unit) => [(u0, .inr (8, [.ref t0, .ref k0, .ref e0, .ref f0, .ref s0, .ref r0, .ref g0, .ref o0, .ref do0, .int dr])), (o0, .inr (7, [.ref o1, .ref o2, .ref o3, .ref o4, .ref o5, .ref o6, .int (nI n), .int (nI k), .int (nI wn), .int (bb wt)])), (o1, .inl (cI, 8, .inl xs)), (o2, .inl (cI, 8, .inl ys)), (o3, .inl (cI, 8, .inl rf)), (o4, .inl (cI, 8, .inl bo)), (o5, .inl (cI, 4, .inl pr)), (o6, .inl (cI, 4, .inl bu)), (s0, .inr (4, [.ref s1, .ref s2, .int (nI sn)])), (s1, .inl (cI, 8, .inl sh)), (s2, .inl (cI, 8, .inl sm)), (t0, .inr (5, [.ref t1, .int (nI ty)])), (t1, .inl (cI, 300, .inl (rI bt)))]) ⟨hx, hb, hml, hown, hts⟩ (c_X8_pairsThatTouch l D cI cZ cO H.size o0 o1 o2 o3 o4 o5 o6 xs ys rf bo pr bu n k (nI wn) wt (by first | assumption | omega | rfl)) (cwV 0 hts gX9_count_X8_pairsThatTouch rfl rfl rfl (by decide +kernel) ⟨Nat.le_of_ble_eq_true rfl, Nat.le_of_ble_eq_true rfl⟩) (xGdc gR gD gK gV) xGd0 (fun _ _ _ _ => trivial) hG hP hD hK hS hA [1, 2, 3, 4, 5, 6, 7] [0, 8, 9, 10, 11, 12] [0, 6, 7, 8, 9, 10, 11, 12, 1, 2, 3, 4, 5] rfl rfl rfl rfl rfl 1 rfl rfl rfl (fun _ => rfl) rfl rfl hl.1 (Nat.le_of_ble_eq_true rfl) dX9_count_68 ⟨Nat.zero_le _, Nat.zero_le _⟩ (fun r u H locs hw hP hD hS => ?_)
    obtain ⟨rfl, hw⟩ := hw
    have hw_68 : True := hw
    have hP : va_P D vwCl [(u0, .inr (8, [.ref t0, .ref k0, .ref e0, .ref f0, .ref s0, .ref r0, .ref g0, .ref o0, .ref do0, .int dr])), (o0, .inr (7, [.ref o1, .ref o2, .ref o3, .ref o4, .ref o5, .ref o6, .int (nI n), .int (nI k), .int (nI wn), .int (bb wt)])), (o1, .inl (cI, 8, .inl xs)), (o2, .inl (cI, 8, .inl ys)), (o3, .inl (cI, 8, .inl rf)), (o4, .inl (cI, 8, .inl bo)), (o5, .inl (cI, 4, .inl pr)), (o6, .inl (cI, 4, .inl bu)), (s0, .inr (4, [.ref s1, .ref s2, .int (nI sn)])), (s1, .inl (cI, 8, .inl sh)), (s2, .inl (cI, 8, .inl sm)), (t0, .inr (5, [.ref t1, .int (nI ty)])), (t1, .inl (cI, 300, .inl (rI bt)))] H := hP
    have hD : va_D A [(u0, .inr (8, [.ref t0, .ref k0, .ref e0, .ref f0, .ref s0, .ref r0, .ref g0, .ref o0, .ref do0, .int dr])), (o0, .inr (7, [.ref o1, .ref o2, .ref o3, .ref o4, .ref o5, .ref o6, .int (nI n), .int (nI k), .int (nI wn), .int (bb wt)])), (o1, .inl (cI, 8, .inl xs)), (o2, .inl (cI, 8, .inl ys)), (o3, .inl (cI, 8, .inl rf)), (o4, .inl (cI, 8, .inl bo)), (o5, .inl (cI, 4, .inl pr)), (o6, .inl (cI, 4, .inl bu)), (s0, .inr (4, [.ref s1, .ref s2, .int (nI sn)])), (s1, .inl (cI, 8, .inl sh)), (s2, .inl (cI, 8, .inl sm)), (t0, .inr (5, [.ref t1, .int (nI ty)])), (t1, .inl (cI, 300, .inl (rI bt)))] := hD
    exact hret _ () _ _ _ _ (rfl) (⟨by first | (rw [c_1_0]; rfl) | (rw [c_1_1]; rfl) | (rw [c_1_2, popc_cnt hn, cnt_not]; rfl) | (rw [c_1_3, sumN_congr (fun h hh => tch_cnt hn hc hh)]; rfl) | (rw [c_1_4]; rfl) | (rw [c_1_5]; rfl) | rw [aCount, if_neg c_1_0, if_neg c_1_1, if_neg c_1_2, if_neg c_1_3, if_neg c_1_4, if_neg c_1_5], trivial⟩) hP hD hS dX9_count_71
  by_cases c_1_4 : what = 4
  ·
    refine lv_tableIn (off := 71) (tgt := 72) hx hb dX9_count_1 (by rw [c_1_4]; decide) (by rw [c_1_4]; decide) (by rw [c_1_4]; rfl) (by decide) ?_
    refine lv_aload_n hx hb dX9_count_72 rfl (lv_at hl 0 rfl) ?_
    refine va_get (D := D) (ci := 8) (v := .ref s0) (C := RX9) (T := TX9) (N := 10) hx hb hts hin_X9 hown hK hP 0 rfl rfl 4 (by decide) w_1 (fun _ h9 => h9) rfl dX9_count_73 ?_
    refine va_getN (D := D) (ci := 4) (v := .int (nI sn)) (C := RX5) (T := TX5) (N := 3) hx hb hts hin_X5 hown hK hP 8 rfl rfl 2 (by decide) wn_2 (fun _ h9 => h9) rfl dX9_count_76 ?_
    exact hret _ () _ _ _ _ (rfl) (⟨by first | (rw [c_1_0]; rfl) | (rw [c_1_1]; rfl) | (rw [c_1_2, popc_cnt hn, cnt_not]; rfl) | (rw [c_1_3, sumN_congr (fun h hh => tch_cnt hn hc hh)]; rfl) | (rw [c_1_4]; rfl) | (rw [c_1_5]; rfl) | rw [aCount, if_neg c_1_0, if_neg c_1_1, if_neg c_1_2, if_neg c_1_3, if_neg c_1_4, if_neg c_1_5], trivial⟩) hP hD hS dX9_count_79
  by_cases c_1_5 : what = 5
  ·
    refine lv_tableIn (off := 79) (tgt := 80) hx hb dX9_count_1 (by rw [c_1_5]; decide) (by rw [c_1_5]; decide) (by rw [c_1_5]; rfl) (by decide) ?_
    refine lv_aload_n hx hb dX9_count_80 rfl (lv_at hl 0 rfl) ?_
    refine va_get (D := D) (ci := 8) (v := .ref t0) (C := RX9) (T := TX9) (N := 10) hx hb hts hin_X9 hown hK hP 0 rfl rfl 0 (by decide) w_2 (fun _ h9 => h9) rfl dX9_count_81 ?_
    refine va_getN (D := D) (ci := 5) (v := .int (nI ty)) (C := RX6) (T := TX6) (N := 2) hx hb hts hin_X6 hown hK hP 11 rfl rfl 1 (by decide) wn_3 (fun _ h9 => h9) rfl dX9_count_84 ?_
    exact hret _ () _ _ _ _ (rfl) (⟨by first | (rw [c_1_0]; rfl) | (rw [c_1_1]; rfl) | (rw [c_1_2, popc_cnt hn, cnt_not]; rfl) | (rw [c_1_3, sumN_congr (fun h hh => tch_cnt hn hc hh)]; rfl) | (rw [c_1_4]; rfl) | (rw [c_1_5]; rfl) | rw [aCount, if_neg c_1_0, if_neg c_1_1, if_neg c_1_2, if_neg c_1_3, if_neg c_1_4, if_neg c_1_5], trivial⟩) hP hD hS dX9_count_87
  have hto : what.toInt < 0 ∨ 5 < what.toInt := by
    by_cases q : what.toInt < 0
    · exact Or.inl q
    · refine Or.inr (Int.not_le.1 (fun q2 => ?_))
      rcases (show what.toInt = 0 ∨ what.toInt = 1 ∨ what.toInt = 2 ∨ what.toInt = 3 ∨ what.toInt = 4 ∨ what.toInt = 5 by omega) with q3 | q3 | q3 | q3 | q3 | q3
      · exact c_1_0 (Int32.toInt_inj.1 q3)
      · exact c_1_1 (Int32.toInt_inj.1 q3)
      · exact c_1_2 (Int32.toInt_inj.1 q3)
      · exact c_1_3 (Int32.toInt_inj.1 q3)
      · exact c_1_4 (Int32.toInt_inj.1 q3)
      · exact c_1_5 (Int32.toInt_inj.1 q3)
  refine lv_tableOut (tgt := 88) hx hb dX9_count_1 hto (by decide) ?_
  refine lv_iconst (v := (-1 : Int32)) hx hb dX9_count_88 (by decide) ?_
  exact hret _ () _ _ _ _ (rfl) (⟨by first | (rw [c_1_0]; rfl) | (rw [c_1_1]; rfl) | (rw [c_1_2, popc_cnt hn, cnt_not]; rfl) | (rw [c_1_3, sumN_congr (fun h hh => tch_cnt hn hc hh)]; rfl) | (rw [c_1_4]; rfl) | (rw [c_1_5]; rfl) | rw [aCount, if_neg c_1_0, if_neg c_1_1, if_neg c_1_2, if_neg c_1_3, if_neg c_1_4, if_neg c_1_5], trivial⟩) hP hD hS dX9_count_89

set_option maxHeartbeats 4000000 in
set_option maxRecDepth 100000 in
theorem c_X9_saw (l : Launch) (D : va_G) (cI cZ cO : ClassId) (sz : Nat) (gR : Nat) (gD : Nat) (gK : Nat → Nat) (gV : Nat → Nat) (u0 : Nat) (t0 : Nat) (k0 : Nat) (e0 : Nat) (f0 : Nat) (s0 : Nat) (r0 : Nat) (g0 : Nat) (o0 : Nat) (do0 : Nat) (dr : Int32) (o1 : Nat) (o2 : Nat) (o3 : Nat) (o4 : Nat) (o5 : Nat) (o6 : Nat) (xs : Nat → Int32) (ys : Nat → Int32) (rf : Nat → Int32) (bo : Nat → Int32) (pr : Nat → Int32) (bu : Nat → Int32) (n : Nat) (k : Nat) (wn : Nat) (wt : Bool) (s1 : Nat) (s2 : Nat) (sn : Nat) (sh : Nat → Int32) (sm : Nat → Int32) (h : Int32) (mi : Int32) (hn : n ≤ 8) (hsn : sn ≤ 8) : xMi l yX9_saw wsX9_saw (1) (22) D (TY cI cZ cO) (xGc gR gD gK gV) [.ref u0, .int h, .int mi] [(u0, .inr (8, [.ref t0, .ref k0, .ref e0, .ref f0, .ref s0, .ref r0, .ref g0, .ref o0, .ref do0, .int dr])), (o0, .inr (7, [.ref o1, .ref o2, .ref o3, .ref o4, .ref o5, .ref o6, .int (nI n), .int (nI k), .int (nI wn), .int (bb wt)])), (o1, .inl (cI, 8, .inl xs)), (o2, .inl (cI, 8, .inl ys)), (o3, .inl (cI, 8, .inl rf)), (o4, .inl (cI, 8, .inl bo)), (o5, .inl (cI, 4, .inl pr)), (o6, .inl (cI, 4, .inl bu)), (s0, .inr (4, [.ref s1, .ref s2, .int (nI sn)])), (s1, .inl (cI, 8, .inl sh)), (s2, .inl (cI, 8, .inl sm))] sz (fun (rv_ : Int32) (u : Nat × (Nat → Int32) × (Nat → Int32)) => rv_ = (aSaw n sn h mi) ∧ (((u.1), (u.2.1), (u.2.2)) = (if inb h n = true ∧ (mi = (-9) ∨ inr mi 0 99 = true) then seenN sn sh sm h mi else (sn, sh, sm)))) (fun (u : Nat × (Nat → Int32) × (Nat → Int32)) => [(u0, .inr (8, [.ref t0, .ref k0, .ref e0, .ref f0, .ref s0, .ref r0, .ref g0, .ref o0, .ref do0, .int dr])), (o0, .inr (7, [.ref o1, .ref o2, .ref o3, .ref o4, .ref o5, .ref o6, .int (nI n), .int (nI k), .int (nI wn), .int (bb wt)])), (o1, .inl (cI, 8, .inl xs)), (o2, .inl (cI, 8, .inl ys)), (o3, .inl (cI, 8, .inl rf)), (o4, .inl (cI, 8, .inl bo)), (o5, .inl (cI, 4, .inl pr)), (o6, .inl (cI, 4, .inl bu)), (s0, .inr (4, [.ref s1, .ref s2, .int (nI (u.1))])), (s1, .inl (cI, 8, .inl (u.2.1))), (s2, .inl (cI, 8, .inl (u.2.2)))]) := by
  refine xMi.of (cc := cX9_saw) (maxL := 4) (by decide +kernel) rfl (Nat.le_of_ble_eq_true rfl) ?_
  intro p e s m below meth c A Q H hx hb hml hown hts hA hP hD hK hS hG hret ls hl
  have hown : s.vm.findClass RX9 = some m.cls := hown
  have hP : va_P D vwCl [(u0, .inr (8, [.ref t0, .ref k0, .ref e0, .ref f0, .ref s0, .ref r0, .ref g0, .ref o0, .ref do0, .int dr])), (o0, .inr (7, [.ref o1, .ref o2, .ref o3, .ref o4, .ref o5, .ref o6, .int (nI n), .int (nI k), .int (nI wn), .int (bb wt)])), (o1, .inl (cI, 8, .inl xs)), (o2, .inl (cI, 8, .inl ys)), (o3, .inl (cI, 8, .inl rf)), (o4, .inl (cI, 8, .inl bo)), (o5, .inl (cI, 4, .inl pr)), (o6, .inl (cI, 4, .inl bu)), (s0, .inr (4, [.ref s1, .ref s2, .int (nI sn)])), (s1, .inl (cI, 8, .inl sh)), (s2, .inl (cI, 8, .inl sm))] H := hP
  have hD : va_D A [(u0, .inr (8, [.ref t0, .ref k0, .ref e0, .ref f0, .ref s0, .ref r0, .ref g0, .ref o0, .ref do0, .int dr])), (o0, .inr (7, [.ref o1, .ref o2, .ref o3, .ref o4, .ref o5, .ref o6, .int (nI n), .int (nI k), .int (nI wn), .int (bb wt)])), (o1, .inl (cI, 8, .inl xs)), (o2, .inl (cI, 8, .inl ys)), (o3, .inl (cI, 8, .inl rf)), (o4, .inl (cI, 8, .inl bo)), (o5, .inl (cI, 4, .inl pr)), (o6, .inl (cI, 4, .inl bu)), (s0, .inr (4, [.ref s1, .ref s2, .int (nI sn)])), (s1, .inl (cI, 8, .inl sh)), (s2, .inl (cI, 8, .inl sm))] := hD
  have hl : lv_has ls 4 [(0, .ref u0), (1, .int h), (2, .int mi)] := hl
  have w_0 := hts (.fieldLink RX9 61 "UnlikeRoofs" "told" "LUnlikeRoofs$Town;") (List.mem_of_getElem? (i := 1) (by rfl))
  have w_1 := hts (.fieldLink RX9 40 "UnlikeRoofs" "seen" "LUnlikeRoofs$Seen;") (List.mem_of_getElem? (i := 2) (by rfl))
  have wn_0 : (Cond.fieldLinkNest RX9 196 "UnlikeRoofs$Seen" "size" "I" "UnlikeRoofs").before ([.ref u0, .int h, .int mi] : List Value).toArray s = true := va_Nw.use rfl (hG.1 (.fieldLinkNest RX9 196 "UnlikeRoofs$Seen" "size" "I" "UnlikeRoofs") (List.mem_of_getElem? (i := 5) (by rfl)))
  have hin_X5 : ∀ w ∈ wsX50, w ∈ wsX9_saw := fun _ h => List.mem_cons_of_mem _ (List.mem_append_left _ (List.mem_append_right _ h))
  have hin_X9 : ∀ w ∈ wsX90, w ∈ wsX9_saw := fun _ h => List.mem_cons_of_mem _ (List.mem_append_left _ (List.mem_append_left _ (List.mem_append_right _ h)))
  have _h0 : True := trivial
  have L_21 : ∀ (okm : Bool), (okm = decide (mi = (-9) ∨ inr mi 0 99 = true)) → ∀ (H : Heap) (locs : List Loc), va_P D vwCl [(u0, .inr (8, [.ref t0, .ref k0, .ref e0, .ref f0, .ref s0, .ref r0, .ref g0, .ref o0, .ref do0, .int dr])), (o0, .inr (7, [.ref o1, .ref o2, .ref o3, .ref o4, .ref o5, .ref o6, .int (nI n), .int (nI k), .int (nI wn), .int (bb wt)])), (o1, .inl (cI, 8, .inl xs)), (o2, .inl (cI, 8, .inl ys)), (o3, .inl (cI, 8, .inl rf)), (o4, .inl (cI, 8, .inl bo)), (o5, .inl (cI, 4, .inl pr)), (o6, .inl (cI, 4, .inl bu)), (s0, .inr (4, [.ref s1, .ref s2, .int (nI sn)])), (s1, .inl (cI, 8, .inl sh)), (s2, .inl (cI, 8, .inl sm))] H → va_D A [(u0, .inr (8, [.ref t0, .ref k0, .ref e0, .ref f0, .ref s0, .ref r0, .ref g0, .ref o0, .ref do0, .int dr])), (o0, .inr (7, [.ref o1, .ref o2, .ref o3, .ref o4, .ref o5, .ref o6, .int (nI n), .int (nI k), .int (nI wn), .int (bb wt)])), (o1, .inl (cI, 8, .inl xs)), (o2, .inl (cI, 8, .inl ys)), (o3, .inl (cI, 8, .inl rf)), (o4, .inl (cI, 8, .inl bo)), (o5, .inl (cI, 4, .inl pr)), (o6, .inl (cI, 4, .inl bu)), (s0, .inr (4, [.ref s1, .ref s2, .int (nI sn)])), (s1, .inl (cI, 8, .inl sh)), (s2, .inl (cI, 8, .inl sm))] → va_S A s.heap H locs → ∀ ls : Array Slot, lv_has ls 4 [(0, .ref u0), (1, .int h), (2, .int mi)] → W p l e (xRm 1 22) s m ([.ref u0, .int h, .int mi] : List Value).toArray below meth c H locs 0 0 Q (F0 m 21 ls [.int (bb okm)]) := by
    intro okm hok H locs hP hD hS ls hl
    refine lv_istore_n (lv' := [(3, .int (bb okm)), (0, .ref u0), (1, .int h), (2, .int mi)]) hx hb dX9_saw_21 rfl hl (by decide) rfl (fun ls hl => ?_)
    refine lv_aload_n hx hb dX9_saw_22 rfl (lv_at hl 1 rfl) ?_
    refine va_get (D := D) (ci := 8) (v := .ref o0) (C := RX9) (T := TX9) (N := 10) hx hb hts hin_X9 hown hK hP 0 rfl rfl 7 (by decide) w_0 (fun _ h9 => h9) rfl dX9_saw_23 ?_
    refine lv_iload_n hx hb dX9_saw_26 rfl (lv_at hl 2 rfl) ?_
    refine xcV_i (As := [.int h]) (rest := []) (wc := [(o0, .inr (7, [.ref o1, .ref o2, .ref o3, .ref o4, .ref o5, .ref o6, .int (nI n), .int (nI k), .int (nI wn), .int (bb wt)])), (o1, .inl (cI, 8, .inl xs)), (o2, .inl (cI, 8, .inl ys)), (o3, .inl (cI, 8, .inl rf)), (o4, .inl (cI, 8, .inl bo)), (o5, .inl (cI, 4, .inl pr)), (o6, .inl (cI, 4, .inl bu))]) (wr := [(u0, .inr (8, [.ref t0, .ref k0, .ref e0, .ref f0, .ref s0, .ref r0, .ref g0, .ref o0, .ref do0, .int dr])), (s0, .inr (4, [.ref s1, .ref s2, .int (nI sn)])), (s1, .inl (cI, 8, .inl sh)), (s2, .inl (cI, 8, .inl sm))]) (w3 := fun (u : Unit) => [(u0, .inr (8, [.ref t0, .ref k0, .ref e0, .ref f0, .ref s0, .ref r0, .ref g0, .ref o0, .ref do0, .int dr])), (o0, .inr (7, [.ref o1, .ref o2, .ref o3, .ref o4, .ref o5, .ref o6, .int (nI n), .int (nI k), .int (nI wn), .int (bb wt)])), (o1, .inl (cI, 8, .inl xs)), (o2, .inl (cI, 8, .inl ys)), (o3, .inl (cI, 8, .inl rf)), (o4, .inl (cI, 8, .inl bo)), (o5, .inl (cI, 4, .inl pr)), (o6, .inl (cI, 4, .inl bu)), (s0, .inr (4, [.ref s1, .ref s2, .int (nI sn)])), (s1, .inl (cI, 8, .inl sh)), (s2, .inl (cI, 8, .inl sm))]) ⟨hx, hb, hml, hown, hts⟩ (c_X8_hasHouse l D cI cZ cO H.size o0 o1 o2 o3 o4 o5 o6 xs ys rf bo pr bu n k (nI wn) wt h (by first | assumption | omega | rfl)) (cwV 1 hts gX9_saw_X8_hasHouse rfl rfl rfl (by decide +kernel) ⟨Nat.le_of_ble_eq_true rfl, Nat.le_of_ble_eq_true rfl⟩) (xGdc gR gD gK gV) xGd0 (fun _ _ _ _ => trivial) hG hP hD hK hS hA [1, 2, 3, 4, 5, 6, 7] [0, 8, 9, 10] [0, 4, 5, 6, 7, 8, 9, 10, 1, 2, 3] rfl rfl rfl rfl rfl 1 rfl rfl rfl (fun _ => rfl) rfl rfl hl.1 (Nat.le_of_ble_eq_true rfl) dX9_saw_27 ⟨Nat.zero_le _, Nat.zero_le _⟩ (fun r u H locs hw hP hD hS => ?_)
    obtain ⟨rfl, hw⟩ := hw
    have hw_27 : True := hw
    have hP : va_P D vwCl [(u0, .inr (8, [.ref t0, .ref k0, .ref e0, .ref f0, .ref s0, .ref r0, .ref g0, .ref o0, .ref do0, .int dr])), (o0, .inr (7, [.ref o1, .ref o2, .ref o3, .ref o4, .ref o5, .ref o6, .int (nI n), .int (nI k), .int (nI wn), .int (bb wt)])), (o1, .inl (cI, 8, .inl xs)), (o2, .inl (cI, 8, .inl ys)), (o3, .inl (cI, 8, .inl rf)), (o4, .inl (cI, 8, .inl bo)), (o5, .inl (cI, 4, .inl pr)), (o6, .inl (cI, 4, .inl bu)), (s0, .inr (4, [.ref s1, .ref s2, .int (nI sn)])), (s1, .inl (cI, 8, .inl sh)), (s2, .inl (cI, 8, .inl sm))] H := hP
    have hD : va_D A [(u0, .inr (8, [.ref t0, .ref k0, .ref e0, .ref f0, .ref s0, .ref r0, .ref g0, .ref o0, .ref do0, .int dr])), (o0, .inr (7, [.ref o1, .ref o2, .ref o3, .ref o4, .ref o5, .ref o6, .int (nI n), .int (nI k), .int (nI wn), .int (bb wt)])), (o1, .inl (cI, 8, .inl xs)), (o2, .inl (cI, 8, .inl ys)), (o3, .inl (cI, 8, .inl rf)), (o4, .inl (cI, 8, .inl bo)), (o5, .inl (cI, 4, .inl pr)), (o6, .inl (cI, 4, .inl bu)), (s0, .inr (4, [.ref s1, .ref s2, .int (nI sn)])), (s1, .inl (cI, 8, .inl sh)), (s2, .inl (cI, 8, .inl sm))] := hD
    refine lv_if_eq (tgt := 37) hx hb dX9_saw_30 (by decide) (fun c_30 => ?_) (fun c_30 => ?_)
    ·
      have b_30 : (inb h n) = false := bb_eq0 c_30
      refine lv_iconst (v := (-1 : Int32)) hx hb dX9_saw_37 (by decide) ?_
      exact hret _ (sn, sh, sm) _ _ _ _ (rfl) (⟨by rw [aSaw, if_neg (bfne b_30)], (if_neg (fun q => (bfne b_30) q.1)).symm⟩) hP hD hS dX9_saw_38
    ·
      have b_30 : (inb h n) = true := bb_neq0 c_30
      obtain ⟨h1, hh1, rfl⟩ := inb_nI (by omega) b_30
      refine lv_iload_n hx hb dX9_saw_33 rfl (lv_at hl 0 rfl) ?_
      refine lv_if_ne (tgt := 39) hx hb dX9_saw_34 (by decide) (fun c_34 => ?_) (fun c_34 => ?_)
      ·
        have b_34 : okm = true := bb_neq0 c_34
        refine lv_aload_n hx hb dX9_saw_39 rfl (lv_at hl 1 rfl) ?_
        refine va_get (D := D) (ci := 8) (v := .ref s0) (C := RX9) (T := TX9) (N := 10) hx hb hts hin_X9 hown hK hP 0 rfl rfl 4 (by decide) w_1 (fun _ h9 => h9) rfl dX9_saw_40 ?_
        refine lv_iload_n hx hb dX9_saw_43 rfl (lv_at hl 2 rfl) ?_
        refine lv_iload_n hx hb dX9_saw_44 rfl (lv_at hl 3 rfl) ?_
        refine xcV_i (As := [.int (nI h1), .int mi]) (rest := []) (wc := [(s0, .inr (4, [.ref s1, .ref s2, .int (nI sn)])), (s1, .inl (cI, 8, .inl sh)), (s2, .inl (cI, 8, .inl sm))]) (wr := [(u0, .inr (8, [.ref t0, .ref k0, .ref e0, .ref f0, .ref s0, .ref r0, .ref g0, .ref o0, .ref do0, .int dr])), (o0, .inr (7, [.ref o1, .ref o2, .ref o3, .ref o4, .ref o5, .ref o6, .int (nI n), .int (nI k), .int (nI wn), .int (bb wt)])), (o1, .inl (cI, 8, .inl xs)), (o2, .inl (cI, 8, .inl ys)), (o3, .inl (cI, 8, .inl rf)), (o4, .inl (cI, 8, .inl bo)), (o5, .inl (cI, 4, .inl pr)), (o6, .inl (cI, 4, .inl bu))]) (w3 := fun (u : Nat × (Nat → Int32) × (Nat → Int32)) => [(u0, .inr (8, [.ref t0, .ref k0, .ref e0, .ref f0, .ref s0, .ref r0, .ref g0, .ref o0, .ref do0, .int dr])), (o0, .inr (7, [.ref o1, .ref o2, .ref o3, .ref o4, .ref o5, .ref o6, .int (nI n), .int (nI k), .int (nI wn), .int (bb wt)])), (o1, .inl (cI, 8, .inl xs)), (o2, .inl (cI, 8, .inl ys)), (o3, .inl (cI, 8, .inl rf)), (o4, .inl (cI, 8, .inl bo)), (o5, .inl (cI, 4, .inl pr)), (o6, .inl (cI, 4, .inl bu)), (s0, .inr (4, [.ref s1, .ref s2, .int (nI (u.1))])), (s1, .inl (cI, 8, .inl (u.2.1))), (s2, .inl (cI, 8, .inl (u.2.2)))]) ⟨hx, hb, hml, hown, hts⟩ (c_X5_add l D cI cZ cO H.size s0 s1 s2 sn sh sm (nI h1) mi (by first | assumption | omega | rfl)) (cwV 2 hts gX9_saw_X5_add rfl rfl rfl (by decide +kernel) ⟨Nat.le_of_ble_eq_true rfl, Nat.le_of_ble_eq_true rfl⟩) (xGdc gR gD gK gV) xGd0 (fun _ _ _ _ => trivial) hG hP hD hK hS hA [8, 9, 10] [0, 1, 2, 3, 4, 5, 6, 7] [0, 1, 2, 3, 4, 5, 6, 7, 8, 9, 10] rfl rfl rfl rfl rfl 8 rfl rfl rfl (fun _ => rfl) rfl rfl hl.1 (Nat.le_of_ble_eq_true rfl) dX9_saw_45 ⟨Nat.zero_le _, Nat.zero_le _⟩ (fun r u H locs hw hP hD hS => ?_)
        obtain ⟨z_1, z_2, z_3⟩ := u
        obtain ⟨rfl, hw⟩ := hw
        have hw_45 : (z_1, z_2, z_3) = seenN sn sh sm (nI h1) mi := hw
        have hP : va_P D vwCl [(u0, .inr (8, [.ref t0, .ref k0, .ref e0, .ref f0, .ref s0, .ref r0, .ref g0, .ref o0, .ref do0, .int dr])), (o0, .inr (7, [.ref o1, .ref o2, .ref o3, .ref o4, .ref o5, .ref o6, .int (nI n), .int (nI k), .int (nI wn), .int (bb wt)])), (o1, .inl (cI, 8, .inl xs)), (o2, .inl (cI, 8, .inl ys)), (o3, .inl (cI, 8, .inl rf)), (o4, .inl (cI, 8, .inl bo)), (o5, .inl (cI, 4, .inl pr)), (o6, .inl (cI, 4, .inl bu)), (s0, .inr (4, [.ref s1, .ref s2, .int (nI z_1)])), (s1, .inl (cI, 8, .inl z_2)), (s2, .inl (cI, 8, .inl z_3))] H := hP
        have hD : va_D A [(u0, .inr (8, [.ref t0, .ref k0, .ref e0, .ref f0, .ref s0, .ref r0, .ref g0, .ref o0, .ref do0, .int dr])), (o0, .inr (7, [.ref o1, .ref o2, .ref o3, .ref o4, .ref o5, .ref o6, .int (nI n), .int (nI k), .int (nI wn), .int (bb wt)])), (o1, .inl (cI, 8, .inl xs)), (o2, .inl (cI, 8, .inl ys)), (o3, .inl (cI, 8, .inl rf)), (o4, .inl (cI, 8, .inl bo)), (o5, .inl (cI, 4, .inl pr)), (o6, .inl (cI, 4, .inl bu)), (s0, .inr (4, [.ref s1, .ref s2, .int (nI z_1)])), (s1, .inl (cI, 8, .inl z_2)), (s2, .inl (cI, 8, .inl z_3))] := hD
        refine lv_if_eq (tgt := 61) hx hb dX9_saw_48 (by decide) (fun c_48 => ?_) (fun c_48 => ?_)
        ·
          have b_48 : (decide (sn < 8)) = false := bb_eq0 c_48
          have b_48 := of_decide_eq_false b_48
          refine lv_bipush (v := (-3 : Int32)) hx hb dX9_saw_61 (by decide) ?_
          exact hret _ (z_1, z_2, z_3) _ _ _ _ (rfl) (⟨saw_yes b_30 (by rw [b_34] at hok; exact of_decide_eq_true hok.symm) hsn (Or.inr ⟨b_48, rfl⟩), hw_45.trans (if_pos ⟨b_30, by rw [b_34] at hok; exact of_decide_eq_true hok.symm⟩).symm⟩) hP hD hS dX9_saw_63
        ·
          have b_48 : (decide (sn < 8)) = true := bb_neq0 c_48
          have b_48 := of_decide_eq_true b_48
          refine lv_aload_n hx hb dX9_saw_51 rfl (lv_at hl 1 rfl) ?_
          refine va_get (D := D) (ci := 8) (v := .ref s0) (C := RX9) (T := TX9) (N := 10) hx hb hts hin_X9 hown hK hP 0 rfl rfl 4 (by decide) w_1 (fun _ h9 => h9) rfl dX9_saw_52 ?_
          refine va_getN (D := D) (ci := 4) (v := .int (nI z_1)) (C := RX5) (T := TX5) (N := 3) hx hb hts hin_X5 hown hK hP 8 rfl rfl 2 (by decide) wn_0 (fun _ h9 => h9) rfl dX9_saw_55 ?_
          refine lv_goto (tgt := 63) hx hb dX9_saw_58 (by decide) ?_
          exact hret _ (z_1, z_2, z_3) _ _ _ _ (rfl) (⟨saw_yes b_30 (by rw [b_34] at hok; exact of_decide_eq_true hok.symm) hsn (Or.inl ⟨b_48, by have q := hw_45; rw [seenN, if_pos b_48] at q; exact congrArg nI (congrArg Prod.fst q)⟩), hw_45.trans (if_pos ⟨b_30, by rw [b_34] at hok; exact of_decide_eq_true hok.symm⟩).symm⟩) hP hD hS dX9_saw_63
      ·
        have b_34 : okm = false := bb_eq0 c_34
        refine lv_iconst (v := (-1 : Int32)) hx hb dX9_saw_37 (by decide) ?_
        exact hret _ (sn, sh, sm) _ _ _ _ (rfl) (⟨saw_no b_30 (by rw [b_34] at hok; exact of_decide_eq_false hok.symm), (if_neg (fun q => (of_decide_eq_false (by rw [b_34] at hok; exact hok.symm)) q.2)).symm⟩) hP hD hS dX9_saw_38
  refine lv_iload_n hx hb dX9_saw_0 rfl (lv_at hl 2 rfl) ?_
  refine lv_bipush (v := (-9 : Int32)) hx hb dX9_saw_1 (by decide) ?_
  refine lv_icmp_eq (tgt := 16) hx hb dX9_saw_3 (by decide) (fun c_3 => ?_) (fun c_3 => ?_)
  ·
    refine lv_iconst (v := (1 : Int32)) hx hb dX9_saw_16 (by decide) ?_
    refine lv_goto (tgt := 21) hx hb dX9_saw_17 (by decide) ?_
    exact L_21 true ((decide_eq_true (Or.inl c_3)).symm) _ _ hP hD hS _ (lv_sub hl [0, 1, 2] rfl)
  ·
    refine lv_iload_n hx hb dX9_saw_6 rfl (lv_at hl 2 rfl) ?_
    refine lv_if_lt (tgt := 20) hx hb dX9_saw_7 (by decide) (fun c_7 => ?_) (fun c_7 => ?_)
    ·
      refine lv_iconst (v := (0 : Int32)) hx hb dX9_saw_20 (by decide) ?_
      exact L_21 false ((decide_eq_false (fun q => q.elim c_3 (fun z => absurd (of_decide_eq_true z).1 (Int32.not_le.2 c_7)))).symm) _ _ hP hD hS _ (lv_sub hl [0, 1, 2] rfl)
    ·
      refine lv_iload_n hx hb dX9_saw_10 rfl (lv_at hl 2 rfl) ?_
      refine lv_bipush (v := (99 : Int32)) hx hb dX9_saw_11 (by decide) ?_
      refine lv_icmp_gt (tgt := 20) hx hb dX9_saw_13 (by decide) (fun c_13 => ?_) (fun c_13 => ?_)
      ·
        refine lv_iconst (v := (0 : Int32)) hx hb dX9_saw_20 (by decide) ?_
        exact L_21 false ((decide_eq_false (fun q => q.elim c_3 (fun z => absurd (of_decide_eq_true z).2 (Int32.not_le.2 c_13)))).symm) _ _ hP hD hS _ (lv_sub hl [0, 1, 2] rfl)
      ·
        refine lv_iconst (v := (1 : Int32)) hx hb dX9_saw_16 (by decide) ?_
        refine lv_goto (tgt := 21) hx hb dX9_saw_17 (by decide) ?_
        exact L_21 true ((decide_eq_true (Or.inr (decide_eq_true ⟨Int32.not_lt.1 c_7, Int32.not_lt.1 c_13⟩))).symm) _ _ hP hD hS _ (lv_sub hl [0, 1, 2] rfl)

set_option maxHeartbeats 4000000 in
set_option maxRecDepth 100000 in
theorem c_X9_pricesLost (l : Launch) (D : va_G) (cI cZ cO : ClassId) (sz : Nat) (gR : Nat) (gD : Nat) (gK : Nat → Nat) (gV : Nat → Nat) (u0 : Nat) (t0 : Nat) (k0 : Nat) (e0 : Nat) (f0 : Nat) (s0 : Nat) (r0 : Nat) (g0 : Nat) (o0 : Nat) (do0 : Nat) (dr : Int32) (o1 : Nat) (o2 : Nat) (o3 : Nat) (o4 : Nat) (o5 : Nat) (o6 : Nat) (xs : Nat → Int32) (ys : Nat → Int32) (rf : Nat → Int32) (bo : Nat → Int32) (pr : Nat → Int32) (bu : Nat → Int32) (n : Nat) (k : Nat) (wn : Nat) (wt : Bool) (f1 : Nat) (bt : Int32) (lc : Int32) (si : Nat → Int32) (a : Nat) (w : Nat) (hn : n ≤ 8) (hk : k ≤ 4) (hc : cOK n xs ys) (hpo : pOK k pr bu) (hh : a < n) (hw4 : w ≤ 4) : xMi l yX9_pricesLost wsX9_pricesLost (4) (96) D (TY cI cZ cO) (xGc gR gD gK gV) [.ref u0, .int (nI a), .int (nI w)] [(u0, .inr (8, [.ref t0, .ref k0, .ref e0, .ref f0, .ref s0, .ref r0, .ref g0, .ref o0, .ref do0, .int dr])), (o0, .inr (7, [.ref o1, .ref o2, .ref o3, .ref o4, .ref o5, .ref o6, .int (nI n), .int (nI k), .int (nI wn), .int (bb wt)])), (o1, .inl (cI, 8, .inl xs)), (o2, .inl (cI, 8, .inl ys)), (o3, .inl (cI, 8, .inl rf)), (o4, .inl (cI, 8, .inl bo)), (o5, .inl (cI, 4, .inl pr)), (o6, .inl (cI, 4, .inl bu)), (f0, .inr (0, [.ref f1, .int bt, .int lc])), (f1, .inl (cI, 8, .inl si))] sz (fun (rv_ : Int32) (u : (Nat → Int32) × Int32 × Int32) => rv_ = (nI (lostN xs ys rf pr bu n k (nI w) a)) ∧ (True)) (fun (u : (Nat → Int32) × Int32 × Int32) => [(u0, .inr (8, [.ref t0, .ref k0, .ref e0, .ref f0, .ref s0, .ref r0, .ref g0, .ref o0, .ref do0, .int dr])), (o0, .inr (7, [.ref o1, .ref o2, .ref o3, .ref o4, .ref o5, .ref o6, .int (nI n), .int (nI k), .int (nI wn), .int (bb wt)])), (o1, .inl (cI, 8, .inl xs)), (o2, .inl (cI, 8, .inl ys)), (o3, .inl (cI, 8, .inl rf)), (o4, .inl (cI, 8, .inl bo)), (o5, .inl (cI, 4, .inl pr)), (o6, .inl (cI, 4, .inl bu)), (f0, .inr (0, [.ref f1, .int (u.2.1), .int (u.2.2)])), (f1, .inl (cI, 8, .inl (u.1)))]) := by
  refine xMi.of (cc := cX9_pricesLost) (maxL := 4) (by decide +kernel) rfl (Nat.le_of_ble_eq_true rfl) ?_
  intro p e s m below meth c A Q H hx hb hml hown hts hA hP hD hK hS hG hret ls hl
  have hown : s.vm.findClass RX9 = some m.cls := hown
  have hP : va_P D vwCl [(u0, .inr (8, [.ref t0, .ref k0, .ref e0, .ref f0, .ref s0, .ref r0, .ref g0, .ref o0, .ref do0, .int dr])), (o0, .inr (7, [.ref o1, .ref o2, .ref o3, .ref o4, .ref o5, .ref o6, .int (nI n), .int (nI k), .int (nI wn), .int (bb wt)])), (o1, .inl (cI, 8, .inl xs)), (o2, .inl (cI, 8, .inl ys)), (o3, .inl (cI, 8, .inl rf)), (o4, .inl (cI, 8, .inl bo)), (o5, .inl (cI, 4, .inl pr)), (o6, .inl (cI, 4, .inl bu)), (f0, .inr (0, [.ref f1, .int bt, .int lc])), (f1, .inl (cI, 8, .inl si))] H := hP
  have hD : va_D A [(u0, .inr (8, [.ref t0, .ref k0, .ref e0, .ref f0, .ref s0, .ref r0, .ref g0, .ref o0, .ref do0, .int dr])), (o0, .inr (7, [.ref o1, .ref o2, .ref o3, .ref o4, .ref o5, .ref o6, .int (nI n), .int (nI k), .int (nI wn), .int (bb wt)])), (o1, .inl (cI, 8, .inl xs)), (o2, .inl (cI, 8, .inl ys)), (o3, .inl (cI, 8, .inl rf)), (o4, .inl (cI, 8, .inl bo)), (o5, .inl (cI, 4, .inl pr)), (o6, .inl (cI, 4, .inl bu)), (f0, .inr (0, [.ref f1, .int bt, .int lc])), (f1, .inl (cI, 8, .inl si))] := hD
  have hl : lv_has ls 4 [(0, .ref u0), (1, .int (nI a)), (2, .int (nI w))] := hl
  have w_0 := hts (.fieldLink RX9 61 "UnlikeRoofs" "told" "LUnlikeRoofs$Town;") (List.mem_of_getElem? (i := 1) (by rfl))
  have w_1 := hts (.fieldLink RX9 33 "UnlikeRoofs" "flames" "LUnlikeRoofs$Fire;") (List.mem_of_getElem? (i := 2) (by rfl))
  have wn_0 : (Cond.fieldLinkNest RX9 112 "UnlikeRoofs$Town" "roofs" "[I" "UnlikeRoofs").before ([.ref u0, .int (nI a), .int (nI w)] : List Value).toArray s = true := va_Nw.use rfl (hG.1 (.fieldLinkNest RX9 112 "UnlikeRoofs$Town" "roofs" "[I" "UnlikeRoofs") (List.mem_of_getElem? (i := 15) (by rfl)))
  have hin_X8 : ∀ w ∈ wsX80, w ∈ wsX9_pricesLost := fun _ h => List.mem_cons_of_mem _ (List.mem_append_left _ (List.mem_append_right _ h))
  have hin_X9 : ∀ w ∈ wsX90, w ∈ wsX9_pricesLost := fun _ h => List.mem_cons_of_mem _ (List.mem_append_left _ (List.mem_append_left _ (List.mem_append_right _ h)))
  have _h0 : True := trivial
  refine lv_aload_n hx hb dX9_pricesLost_0 rfl (lv_at hl 0 rfl) ?_
  refine va_get (D := D) (ci := 8) (v := .ref o0) (C := RX9) (T := TX9) (N := 10) hx hb hts hin_X9 hown hK hP 0 rfl rfl 7 (by decide) w_0 (fun _ h9 => h9) rfl dX9_pricesLost_1 ?_
  refine lv_iload_n hx hb dX9_pricesLost_4 rfl (lv_at hl 1 rfl) ?_
  refine xcV_i (As := [.int (nI a)]) (rest := []) (wc := [(o0, .inr (7, [.ref o1, .ref o2, .ref o3, .ref o4, .ref o5, .ref o6, .int (nI n), .int (nI k), .int (nI wn), .int (bb wt)])), (o1, .inl (cI, 8, .inl xs)), (o2, .inl (cI, 8, .inl ys)), (o3, .inl (cI, 8, .inl rf)), (o4, .inl (cI, 8, .inl bo)), (o5, .inl (cI, 4, .inl pr)), (o6, .inl (cI, 4, .inl bu))]) (wr := [(u0, .inr (8, [.ref t0, .ref k0, .ref e0, .ref f0, .ref s0, .ref r0, .ref g0, .ref o0, .ref do0, .int dr])), (f0, .inr (0, [.ref f1, .int bt, .int lc])), (f1, .inl (cI, 8, .inl si))]) (w3 := fun (u : Unit) => [(u0, .inr (8, [.ref t0, .ref k0, .ref e0, .ref f0, .ref s0, .ref r0, .ref g0, .ref o0, .ref do0, .int dr])), (o0, .inr (7, [.ref o1, .ref o2, .ref o3, .ref o4, .ref o5, .ref o6, .int (nI n), .int (nI k), .int (nI wn), .int (bb wt)])), (o1, .inl (cI, 8, .inl xs)), (o2, .inl (cI, 8, .inl ys)), (o3, .inl (cI, 8, .inl rf)), (o4, .inl (cI, 8, .inl bo)), (o5, .inl (cI, 4, .inl pr)), (o6, .inl (cI, 4, .inl bu)), (f0, .inr (0, [.ref f1, .int bt, .int lc])), (f1, .inl (cI, 8, .inl si))]) ⟨hx, hb, hml, hown, hts⟩ (c_X8_canBurn l D cI cZ cO H.size o0 o1 o2 o3 o4 o5 o6 xs ys rf bo pr bu n k (nI wn) wt a (by first | assumption | omega | rfl) (by first | assumption | omega | rfl) (by first | assumption | omega | rfl)) (cwV 1 hts gX9_pricesLost_X8_canBurn rfl rfl rfl (by decide +kernel) ⟨Nat.le_of_ble_eq_true rfl, Nat.le_of_ble_eq_true rfl⟩) (xGdc gR gD gK gV) xGd0 (fun _ _ _ _ => trivial) hG hP hD hK hS hA [1, 2, 3, 4, 5, 6, 7] [0, 8, 9] [0, 3, 4, 5, 6, 7, 8, 9, 1, 2] rfl rfl rfl rfl rfl 1 rfl rfl rfl (fun _ => rfl) rfl rfl hl.1 (Nat.le_of_ble_eq_true rfl) dX9_pricesLost_5 ⟨Nat.zero_le _, Nat.zero_le _⟩ (fun r u H locs hw hP hD hS => ?_)
  obtain ⟨rfl, hw⟩ := hw
  have hw_5 : True := hw
  have hP : va_P D vwCl [(u0, .inr (8, [.ref t0, .ref k0, .ref e0, .ref f0, .ref s0, .ref r0, .ref g0, .ref o0, .ref do0, .int dr])), (o0, .inr (7, [.ref o1, .ref o2, .ref o3, .ref o4, .ref o5, .ref o6, .int (nI n), .int (nI k), .int (nI wn), .int (bb wt)])), (o1, .inl (cI, 8, .inl xs)), (o2, .inl (cI, 8, .inl ys)), (o3, .inl (cI, 8, .inl rf)), (o4, .inl (cI, 8, .inl bo)), (o5, .inl (cI, 4, .inl pr)), (o6, .inl (cI, 4, .inl bu)), (f0, .inr (0, [.ref f1, .int bt, .int lc])), (f1, .inl (cI, 8, .inl si))] H := hP
  have hD : va_D A [(u0, .inr (8, [.ref t0, .ref k0, .ref e0, .ref f0, .ref s0, .ref r0, .ref g0, .ref o0, .ref do0, .int dr])), (o0, .inr (7, [.ref o1, .ref o2, .ref o3, .ref o4, .ref o5, .ref o6, .int (nI n), .int (nI k), .int (nI wn), .int (bb wt)])), (o1, .inl (cI, 8, .inl xs)), (o2, .inl (cI, 8, .inl ys)), (o3, .inl (cI, 8, .inl rf)), (o4, .inl (cI, 8, .inl bo)), (o5, .inl (cI, 4, .inl pr)), (o6, .inl (cI, 4, .inl bu)), (f0, .inr (0, [.ref f1, .int bt, .int lc])), (f1, .inl (cI, 8, .inl si))] := hD
  refine lv_if_ne (tgt := 13) hx hb dX9_pricesLost_8 (by decide) (fun c_8 => ?_) (fun c_8 => ?_)
  ·
    have b_8 : (decide (0 < prOf bu k (rf a))) = true := bb_neq0 c_8
    have b_8 := of_decide_eq_true b_8
    refine lv_aload_n hx hb dX9_pricesLost_13 rfl (lv_at hl 0 rfl) ?_
    refine va_get (D := D) (ci := 8) (v := .ref o0) (C := RX9) (T := TX9) (N := 10) hx hb hts hin_X9 hown hK hP 0 rfl rfl 7 (by decide) w_0 (fun _ h9 => h9) rfl dX9_pricesLost_14 ?_
    refine va_getN (D := D) (ci := 7) (v := .ref o3) (C := RX8) (T := TX8) (N := 10) hx hb hts hin_X8 hown hK hP 1 rfl rfl 2 (by decide) wn_0 (fun _ h9 => h9) rfl dX9_pricesLost_17 ?_
    refine lv_iload_n hx hb dX9_pricesLost_20 rfl (lv_at hl 1 rfl) ?_
    refine x_iald hx hb hK hP 4 0 rfl rfl (j := a) (by omega) (by decide) dX9_pricesLost_21 ?_
    refine lv_istore_n (lv' := [(3, .int (rf a)), (0, .ref u0), (1, .int (nI a)), (2, .int (nI w))]) hx hb dX9_pricesLost_22 rfl hl (by decide) rfl (fun ls hl => ?_)
    refine lv_aload_n hx hb dX9_pricesLost_23 rfl (lv_at hl 1 rfl) ?_
    refine va_get (D := D) (ci := 8) (v := .ref f0) (C := RX9) (T := TX9) (N := 10) hx hb hts hin_X9 hown hK hP 0 rfl rfl 3 (by decide) w_1 (fun _ h9 => h9) rfl dX9_pricesLost_24 ?_
    refine lv_aload_n hx hb dX9_pricesLost_27 rfl (lv_at hl 1 rfl) ?_
    refine va_get (D := D) (ci := 8) (v := .ref o0) (C := RX9) (T := TX9) (N := 10) hx hb hts hin_X9 hown hK hP 0 rfl rfl 7 (by decide) w_0 (fun _ h9 => h9) rfl dX9_pricesLost_28 ?_
    refine lv_aload_n hx hb dX9_pricesLost_31 rfl (lv_at hl 1 rfl) ?_
    refine va_get (D := D) (ci := 8) (v := .ref o0) (C := RX9) (T := TX9) (N := 10) hx hb hts hin_X9 hown hK hP 0 rfl rfl 7 (by decide) w_0 (fun _ h9 => h9) rfl dX9_pricesLost_32 ?_
    refine lv_iload_n hx hb dX9_pricesLost_35 rfl (lv_at hl 0 rfl) ?_
    refine xcV_i (As := [.int (rf a)]) (rest := [.ref o0, .ref f0]) (wc := [(o0, .inr (7, [.ref o1, .ref o2, .ref o3, .ref o4, .ref o5, .ref o6, .int (nI n), .int (nI k), .int (nI wn), .int (bb wt)])), (o1, .inl (cI, 8, .inl xs)), (o2, .inl (cI, 8, .inl ys)), (o3, .inl (cI, 8, .inl rf)), (o4, .inl (cI, 8, .inl bo)), (o5, .inl (cI, 4, .inl pr)), (o6, .inl (cI, 4, .inl bu))]) (wr := [(u0, .inr (8, [.ref t0, .ref k0, .ref e0, .ref f0, .ref s0, .ref r0, .ref g0, .ref o0, .ref do0, .int dr])), (f0, .inr (0, [.ref f1, .int bt, .int lc])), (f1, .inl (cI, 8, .inl si))]) (w3 := fun (u : Unit) => [(u0, .inr (8, [.ref t0, .ref k0, .ref e0, .ref f0, .ref s0, .ref r0, .ref g0, .ref o0, .ref do0, .int dr])), (o0, .inr (7, [.ref o1, .ref o2, .ref o3, .ref o4, .ref o5, .ref o6, .int (nI n), .int (nI k), .int (nI wn), .int (bb wt)])), (o1, .inl (cI, 8, .inl xs)), (o2, .inl (cI, 8, .inl ys)), (o3, .inl (cI, 8, .inl rf)), (o4, .inl (cI, 8, .inl bo)), (o5, .inl (cI, 4, .inl pr)), (o6, .inl (cI, 4, .inl bu)), (f0, .inr (0, [.ref f1, .int bt, .int lc])), (f1, .inl (cI, 8, .inl si))]) ⟨hx, hb, hml, hown, hts⟩ (c_X8_roofedWith l D cI cZ cO H.size o0 o1 o2 o3 o4 o5 o6 xs ys rf bo pr bu n k (nI wn) wt (rf a) (by first | assumption | omega | rfl)) (cwV 1 hts gX9_pricesLost_X8_roofedWith rfl rfl rfl (by decide +kernel) ⟨Nat.le_of_ble_eq_true rfl, Nat.le_of_ble_eq_true rfl⟩) (xGdc gR gD gK gV) xGd0 (fun _ _ _ _ => trivial) hG hP hD hK hS hA [1, 2, 3, 4, 5, 6, 7] [0, 8, 9] [0, 3, 4, 5, 6, 7, 8, 9, 1, 2] rfl rfl rfl rfl rfl 1 rfl rfl rfl (fun _ => rfl) rfl rfl hl.1 (Nat.le_of_ble_eq_true rfl) dX9_pricesLost_36 ⟨Nat.zero_le _, Nat.zero_le _⟩ (fun r u H locs hw hP hD hS => ?_)
    obtain ⟨rfl, hw⟩ := hw
    have hw_36 : True := hw
    have hP : va_P D vwCl [(u0, .inr (8, [.ref t0, .ref k0, .ref e0, .ref f0, .ref s0, .ref r0, .ref g0, .ref o0, .ref do0, .int dr])), (o0, .inr (7, [.ref o1, .ref o2, .ref o3, .ref o4, .ref o5, .ref o6, .int (nI n), .int (nI k), .int (nI wn), .int (bb wt)])), (o1, .inl (cI, 8, .inl xs)), (o2, .inl (cI, 8, .inl ys)), (o3, .inl (cI, 8, .inl rf)), (o4, .inl (cI, 8, .inl bo)), (o5, .inl (cI, 4, .inl pr)), (o6, .inl (cI, 4, .inl bu)), (f0, .inr (0, [.ref f1, .int bt, .int lc])), (f1, .inl (cI, 8, .inl si))] H := hP
    have hD : va_D A [(u0, .inr (8, [.ref t0, .ref k0, .ref e0, .ref f0, .ref s0, .ref r0, .ref g0, .ref o0, .ref do0, .int dr])), (o0, .inr (7, [.ref o1, .ref o2, .ref o3, .ref o4, .ref o5, .ref o6, .int (nI n), .int (nI k), .int (nI wn), .int (bb wt)])), (o1, .inl (cI, 8, .inl xs)), (o2, .inl (cI, 8, .inl ys)), (o3, .inl (cI, 8, .inl rf)), (o4, .inl (cI, 8, .inl bo)), (o5, .inl (cI, 4, .inl pr)), (o6, .inl (cI, 4, .inl bu)), (f0, .inr (0, [.ref f1, .int bt, .int lc])), (f1, .inl (cI, 8, .inl si))] := hD
    refine lv_iload_n hx hb dX9_pricesLost_39 rfl (lv_at hl 3 rfl) ?_
    refine lv_iload_n hx hb dX9_pricesLost_40 rfl (lv_at hl 2 rfl) ?_
    refine xcV_v (As := [.ref o0, .int (nI (mkM (fun g => decide (rf g = (rf a))) n)), .int (nI w), .int (nI a)]) (rest := []) (wc := [(f0, .inr (0, [.ref f1, .int bt, .int lc])), (f1, .inl (cI, 8, .inl si)), (o0, .inr (7, [.ref o1, .ref o2, .ref o3, .ref o4, .ref o5, .ref o6, .int (nI n), .int (nI k), .int (nI wn), .int (bb wt)])), (o1, .inl (cI, 8, .inl xs)), (o2, .inl (cI, 8, .inl ys)), (o3, .inl (cI, 8, .inl rf)), (o4, .inl (cI, 8, .inl bo)), (o5, .inl (cI, 4, .inl pr)), (o6, .inl (cI, 4, .inl bu))]) (wr := [(u0, .inr (8, [.ref t0, .ref k0, .ref e0, .ref f0, .ref s0, .ref r0, .ref g0, .ref o0, .ref do0, .int dr]))]) (w3 := fun (u : (Nat → Int32) × Nat × Nat) => [(u0, .inr (8, [.ref t0, .ref k0, .ref e0, .ref f0, .ref s0, .ref r0, .ref g0, .ref o0, .ref do0, .int dr])), (o0, .inr (7, [.ref o1, .ref o2, .ref o3, .ref o4, .ref o5, .ref o6, .int (nI n), .int (nI k), .int (nI wn), .int (bb wt)])), (o1, .inl (cI, 8, .inl xs)), (o2, .inl (cI, 8, .inl ys)), (o3, .inl (cI, 8, .inl rf)), (o4, .inl (cI, 8, .inl bo)), (o5, .inl (cI, 4, .inl pr)), (o6, .inl (cI, 4, .inl bu)), (f0, .inr (0, [.ref f1, .int (nI (u.2.1)), .int (nI (u.2.2))])), (f1, .inl (cI, 8, .inl (u.1)))]) ⟨hx, hb, hml, hown, hts⟩ (c_X0_spread l D cI cZ cO H.size gR gD gK gV f0 f1 bt lc si o0 o1 o2 o3 o4 o5 o6 xs ys rf bo pr bu n k (nI wn) wt (mkM (fun g => decide (rf g = (rf a))) n) w a rf (by first | assumption | omega | rfl) (by first | assumption | omega | rfl) (by first | assumption | omega | rfl) (by first | assumption | omega | rfl) (by first | assumption | omega | rfl)) (cwV 4 hts gX9_pricesLost_X0_spread rfl rfl rfl (by decide +kernel) ⟨Nat.le_of_ble_eq_true rfl, Nat.le_of_ble_eq_true rfl⟩) (xGdc gR gD gK gV) (xGdc gR gD gK gV) (fun _ _ _ h => h) hG hP hD hK hS hA [8, 9, 1, 2, 3, 4, 5, 6, 7] [0] [0, 3, 4, 5, 6, 7, 8, 9, 1, 2] rfl rfl rfl rfl rfl 8 rfl rfl rfl (fun _ => rfl) rfl rfl hl.1 (Nat.le_of_ble_eq_true rfl) dX9_pricesLost_41 ⟨Nat.zero_le _, Nat.zero_le _⟩ (fun u H locs hw hP hD hS => ?_)
    obtain ⟨z_1, z_2, z_3⟩ := u
    have hw_41 : (∀ h, h < 8 → z_1 h = fS rf xs ys n (nI w) a 98 h) ∧ z_2 = mkM (litB (fS rf xs ys n (nI w) a 98)) n ∧ lastP (fS rf xs ys n (nI w) a 98) n z_3 := hw
    have hP : va_P D vwCl [(u0, .inr (8, [.ref t0, .ref k0, .ref e0, .ref f0, .ref s0, .ref r0, .ref g0, .ref o0, .ref do0, .int dr])), (o0, .inr (7, [.ref o1, .ref o2, .ref o3, .ref o4, .ref o5, .ref o6, .int (nI n), .int (nI k), .int (nI wn), .int (bb wt)])), (o1, .inl (cI, 8, .inl xs)), (o2, .inl (cI, 8, .inl ys)), (o3, .inl (cI, 8, .inl rf)), (o4, .inl (cI, 8, .inl bo)), (o5, .inl (cI, 4, .inl pr)), (o6, .inl (cI, 4, .inl bu)), (f0, .inr (0, [.ref f1, .int (nI z_2), .int (nI z_3)])), (f1, .inl (cI, 8, .inl z_1))] H := hP
    have hD : va_D A [(u0, .inr (8, [.ref t0, .ref k0, .ref e0, .ref f0, .ref s0, .ref r0, .ref g0, .ref o0, .ref do0, .int dr])), (o0, .inr (7, [.ref o1, .ref o2, .ref o3, .ref o4, .ref o5, .ref o6, .int (nI n), .int (nI k), .int (nI wn), .int (bb wt)])), (o1, .inl (cI, 8, .inl xs)), (o2, .inl (cI, 8, .inl ys)), (o3, .inl (cI, 8, .inl rf)), (o4, .inl (cI, 8, .inl bo)), (o5, .inl (cI, 4, .inl pr)), (o6, .inl (cI, 4, .inl bu)), (f0, .inr (0, [.ref f1, .int (nI z_2), .int (nI z_3)])), (f1, .inl (cI, 8, .inl z_1))] := hD
    have hbq : z_2 < 256 := by rw [hw_41.2.1]; exact mkM_256 hn
    refine lv_aload_n hx hb dX9_pricesLost_44 rfl (lv_at hl 1 rfl) ?_
    refine va_get (D := D) (ci := 8) (v := .ref f0) (C := RX9) (T := TX9) (N := 10) hx hb hts hin_X9 hown hK hP 0 rfl rfl 3 (by decide) w_1 (fun _ h9 => h9) rfl dX9_pricesLost_45 ?_
    refine xcV_i (As := []) (rest := []) (wc := [(f0, .inr (0, [.ref f1, .int (nI z_2), .int (nI z_3)])), (f1, .inl (cI, 8, .inl z_1))]) (wr := [(u0, .inr (8, [.ref t0, .ref k0, .ref e0, .ref f0, .ref s0, .ref r0, .ref g0, .ref o0, .ref do0, .int dr])), (o0, .inr (7, [.ref o1, .ref o2, .ref o3, .ref o4, .ref o5, .ref o6, .int (nI n), .int (nI k), .int (nI wn), .int (bb wt)])), (o1, .inl (cI, 8, .inl xs)), (o2, .inl (cI, 8, .inl ys)), (o3, .inl (cI, 8, .inl rf)), (o4, .inl (cI, 8, .inl bo)), (o5, .inl (cI, 4, .inl pr)), (o6, .inl (cI, 4, .inl bu))]) (w3 := fun (u : Unit) => [(u0, .inr (8, [.ref t0, .ref k0, .ref e0, .ref f0, .ref s0, .ref r0, .ref g0, .ref o0, .ref do0, .int dr])), (o0, .inr (7, [.ref o1, .ref o2, .ref o3, .ref o4, .ref o5, .ref o6, .int (nI n), .int (nI k), .int (nI wn), .int (bb wt)])), (o1, .inl (cI, 8, .inl xs)), (o2, .inl (cI, 8, .inl ys)), (o3, .inl (cI, 8, .inl rf)), (o4, .inl (cI, 8, .inl bo)), (o5, .inl (cI, 4, .inl pr)), (o6, .inl (cI, 4, .inl bu)), (f0, .inr (0, [.ref f1, .int (nI z_2), .int (nI z_3)])), (f1, .inl (cI, 8, .inl z_1))]) ⟨hx, hb, hml, hown, hts⟩ (c_X0_howMany l D cI cZ cO H.size f0 f1 z_2 (nI z_3) z_1 (hbq)) (cwV 0 hts gX9_pricesLost_X0_howMany rfl rfl rfl (by decide +kernel) ⟨Nat.le_of_ble_eq_true rfl, Nat.le_of_ble_eq_true rfl⟩) (xGdc gR gD gK gV) xGd0 (fun _ _ _ _ => trivial) hG hP hD hK hS hA [8, 9] [0, 1, 2, 3, 4, 5, 6, 7] [0, 1, 2, 3, 4, 5, 6, 7, 8, 9] rfl rfl rfl rfl rfl 8 rfl rfl rfl (fun _ => rfl) rfl rfl hl.1 (Nat.le_of_ble_eq_true rfl) dX9_pricesLost_48 ⟨Nat.zero_le _, Nat.zero_le _⟩ (fun r u H locs hw hP hD hS => ?_)
    obtain ⟨rfl, hw⟩ := hw
    have hw_48 : True := hw
    have hP : va_P D vwCl [(u0, .inr (8, [.ref t0, .ref k0, .ref e0, .ref f0, .ref s0, .ref r0, .ref g0, .ref o0, .ref do0, .int dr])), (o0, .inr (7, [.ref o1, .ref o2, .ref o3, .ref o4, .ref o5, .ref o6, .int (nI n), .int (nI k), .int (nI wn), .int (bb wt)])), (o1, .inl (cI, 8, .inl xs)), (o2, .inl (cI, 8, .inl ys)), (o3, .inl (cI, 8, .inl rf)), (o4, .inl (cI, 8, .inl bo)), (o5, .inl (cI, 4, .inl pr)), (o6, .inl (cI, 4, .inl bu)), (f0, .inr (0, [.ref f1, .int (nI z_2), .int (nI z_3)])), (f1, .inl (cI, 8, .inl z_1))] H := hP
    have hD : va_D A [(u0, .inr (8, [.ref t0, .ref k0, .ref e0, .ref f0, .ref s0, .ref r0, .ref g0, .ref o0, .ref do0, .int dr])), (o0, .inr (7, [.ref o1, .ref o2, .ref o3, .ref o4, .ref o5, .ref o6, .int (nI n), .int (nI k), .int (nI wn), .int (bb wt)])), (o1, .inl (cI, 8, .inl xs)), (o2, .inl (cI, 8, .inl ys)), (o3, .inl (cI, 8, .inl rf)), (o4, .inl (cI, 8, .inl bo)), (o5, .inl (cI, 4, .inl pr)), (o6, .inl (cI, 4, .inl bu)), (f0, .inr (0, [.ref f1, .int (nI z_2), .int (nI z_3)])), (f1, .inl (cI, 8, .inl z_1))] := hD
    refine lv_aload_n hx hb dX9_pricesLost_51 rfl (lv_at hl 1 rfl) ?_
    refine va_get (D := D) (ci := 8) (v := .ref o0) (C := RX9) (T := TX9) (N := 10) hx hb hts hin_X9 hown hK hP 0 rfl rfl 7 (by decide) w_0 (fun _ h9 => h9) rfl dX9_pricesLost_52 ?_
    refine lv_iload_n hx hb dX9_pricesLost_55 rfl (lv_at hl 0 rfl) ?_
    refine xcV_i (As := [.int (rf a)]) (rest := [.int (nI (popc z_2))]) (wc := [(o0, .inr (7, [.ref o1, .ref o2, .ref o3, .ref o4, .ref o5, .ref o6, .int (nI n), .int (nI k), .int (nI wn), .int (bb wt)])), (o1, .inl (cI, 8, .inl xs)), (o2, .inl (cI, 8, .inl ys)), (o3, .inl (cI, 8, .inl rf)), (o4, .inl (cI, 8, .inl bo)), (o5, .inl (cI, 4, .inl pr)), (o6, .inl (cI, 4, .inl bu))]) (wr := [(u0, .inr (8, [.ref t0, .ref k0, .ref e0, .ref f0, .ref s0, .ref r0, .ref g0, .ref o0, .ref do0, .int dr])), (f0, .inr (0, [.ref f1, .int (nI z_2), .int (nI z_3)])), (f1, .inl (cI, 8, .inl z_1))]) (w3 := fun (u : Unit) => [(u0, .inr (8, [.ref t0, .ref k0, .ref e0, .ref f0, .ref s0, .ref r0, .ref g0, .ref o0, .ref do0, .int dr])), (o0, .inr (7, [.ref o1, .ref o2, .ref o3, .ref o4, .ref o5, .ref o6, .int (nI n), .int (nI k), .int (nI wn), .int (bb wt)])), (o1, .inl (cI, 8, .inl xs)), (o2, .inl (cI, 8, .inl ys)), (o3, .inl (cI, 8, .inl rf)), (o4, .inl (cI, 8, .inl bo)), (o5, .inl (cI, 4, .inl pr)), (o6, .inl (cI, 4, .inl bu)), (f0, .inr (0, [.ref f1, .int (nI z_2), .int (nI z_3)])), (f1, .inl (cI, 8, .inl z_1))]) ⟨hx, hb, hml, hown, hts⟩ (c_X8_priceOf l D cI cZ cO H.size o0 o1 o2 o3 o4 o5 o6 xs ys rf bo pr bu n k (nI wn) wt (rf a) (by first | assumption | omega | rfl)) (cwV 1 hts gX9_pricesLost_X8_priceOf rfl rfl rfl (by decide +kernel) ⟨Nat.le_of_ble_eq_true rfl, Nat.le_of_ble_eq_true rfl⟩) (xGdc gR gD gK gV) xGd0 (fun _ _ _ _ => trivial) hG hP hD hK hS hA [1, 2, 3, 4, 5, 6, 7] [0, 8, 9] [0, 3, 4, 5, 6, 7, 8, 9, 1, 2] rfl rfl rfl rfl rfl 1 rfl rfl rfl (fun _ => rfl) rfl rfl hl.1 (Nat.le_of_ble_eq_true rfl) dX9_pricesLost_56 ⟨Nat.zero_le _, Nat.zero_le _⟩ (fun r u H locs hw hP hD hS => ?_)
    obtain ⟨rfl, hw⟩ := hw
    have hw_56 : True := hw
    have hP : va_P D vwCl [(u0, .inr (8, [.ref t0, .ref k0, .ref e0, .ref f0, .ref s0, .ref r0, .ref g0, .ref o0, .ref do0, .int dr])), (o0, .inr (7, [.ref o1, .ref o2, .ref o3, .ref o4, .ref o5, .ref o6, .int (nI n), .int (nI k), .int (nI wn), .int (bb wt)])), (o1, .inl (cI, 8, .inl xs)), (o2, .inl (cI, 8, .inl ys)), (o3, .inl (cI, 8, .inl rf)), (o4, .inl (cI, 8, .inl bo)), (o5, .inl (cI, 4, .inl pr)), (o6, .inl (cI, 4, .inl bu)), (f0, .inr (0, [.ref f1, .int (nI z_2), .int (nI z_3)])), (f1, .inl (cI, 8, .inl z_1))] H := hP
    have hD : va_D A [(u0, .inr (8, [.ref t0, .ref k0, .ref e0, .ref f0, .ref s0, .ref r0, .ref g0, .ref o0, .ref do0, .int dr])), (o0, .inr (7, [.ref o1, .ref o2, .ref o3, .ref o4, .ref o5, .ref o6, .int (nI n), .int (nI k), .int (nI wn), .int (bb wt)])), (o1, .inl (cI, 8, .inl xs)), (o2, .inl (cI, 8, .inl ys)), (o3, .inl (cI, 8, .inl rf)), (o4, .inl (cI, 8, .inl bo)), (o5, .inl (cI, 4, .inl pr)), (o6, .inl (cI, 4, .inl bu)), (f0, .inr (0, [.ref f1, .int (nI z_2), .int (nI z_3)])), (f1, .inl (cI, 8, .inl z_1))] := hD
    refine lv_topr (x' := nI (prN pr k (rf a))) ((prN_nI hk hpo _).1) ?_
    refine lv_imul hx hb dX9_pricesLost_59 ?_
    refine lv_topr (x' := nI ((popc z_2) * (prN pr k (rf a)))) (pk_mul (popc z_2) (prN pr k (rf a))) ?_
    exact hret _ (z_1, nI z_2, nI z_3) _ _ _ _ (rfl) (⟨by rw [lostN, burB, if_pos (decide_eq_true b_8), hw_41.2.1, popc_cnt hn]; rfl, trivial⟩) hP hD hS dX9_pricesLost_60
  ·
    have b_8 : (decide (0 < prOf bu k (rf a))) = false := bb_eq0 c_8
    have b_8 := of_decide_eq_false b_8
    refine lv_iconst (v := (0 : Int32)) hx hb dX9_pricesLost_11 (by decide) ?_
    exact hret _ (si, bt, lc) _ _ _ _ (rfl) (⟨by rw [lostN, burB, if_neg (fun q => b_8 (of_decide_eq_true q))]; rfl, trivial⟩) hP hD hS dX9_pricesLost_12
