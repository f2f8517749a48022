set_option maxHeartbeats 4000000 in
set_option maxRecDepth 100000 in
theorem c_X9_pricesLostIfAll (l : Launch) (D : va_G) (cI cZ cO : ClassId) (sz : Nat) (gR : Nat) (gD : Nat) (gK : Nat → Nat) (gV : Nat → Nat) (u0 : Nat) (t0 : Nat) (k0 : Nat) (e0 : Nat) (f0 : Nat) (s0 : Nat) (r0 : Nat) (g0 : Nat) (o0 : Nat) (do0 : Nat) (dr : Int32) (o1 : Nat) (o2 : Nat) (o3 : Nat) (o4 : Nat) (o5 : Nat) (o6 : Nat) (xs : Nat → Int32) (ys : Nat → Int32) (rf : Nat → Int32) (bo : Nat → Int32) (pr : Nat → Int32) (bu : Nat → Int32) (n : Nat) (k : Nat) (wn : Nat) (wt : Bool) (f1 : Nat) (bt : Int32) (lc : Int32) (si : Nat → Int32) (v : Nat) (a : Nat) (w : Nat) (hn : n ≤ 8) (hk : k ≤ 4) (hc : cOK n xs ys) (hpo : pOK k pr bu) (hv : v < k) (hh : a < n) (hw4 : w ≤ 4) : xMi l yX9_pricesLostIfAll wsX9_pricesLostIfAll (4) (96) D (TY cI cZ cO) (xGc gR gD gK gV) [.ref u0, .int (nI v), .int (nI a), .int (nI w)] [(u0, .inr (8, [.ref t0, .ref k0, .ref e0, .ref f0, .ref s0, .ref r0, .ref g0, .ref o0, .ref do0, .int dr])), (o0, .inr (7, [.ref o1, .ref o2, .ref o3, .ref o4, .ref o5, .ref o6, .int (nI n), .int (nI k), .int (nI wn), .int (bb wt)])), (o1, .inl (cI, 8, .inl xs)), (o2, .inl (cI, 8, .inl ys)), (o3, .inl (cI, 8, .inl rf)), (o4, .inl (cI, 8, .inl bo)), (o5, .inl (cI, 4, .inl pr)), (o6, .inl (cI, 4, .inl bu)), (f0, .inr (0, [.ref f1, .int bt, .int lc])), (f1, .inl (cI, 8, .inl si))] sz (fun (rv_ : Int32) (u : (Nat → Int32) × Int32 × Int32) => rv_ = (nI (lostN xs ys (fun _ => nI v) pr bu n k (nI w) a)) ∧ (True)) (fun (u : (Nat → Int32) × Int32 × Int32) => [(u0, .inr (8, [.ref t0, .ref k0, .ref e0, .ref f0, .ref s0, .ref r0, .ref g0, .ref o0, .ref do0, .int dr])), (o0, .inr (7, [.ref o1, .ref o2, .ref o3, .ref o4, .ref o5, .ref o6, .int (nI n), .int (nI k), .int (nI wn), .int (bb wt)])), (o1, .inl (cI, 8, .inl xs)), (o2, .inl (cI, 8, .inl ys)), (o3, .inl (cI, 8, .inl rf)), (o4, .inl (cI, 8, .inl bo)), (o5, .inl (cI, 4, .inl pr)), (o6, .inl (cI, 4, .inl bu)), (f0, .inr (0, [.ref f1, .int (u.2.1), .int (u.2.2)])), (f1, .inl (cI, 8, .inl (u.1)))]) := by
  refine xMi.of (cc := cX9_pricesLostIfAll) (maxL := 4) (by decide +kernel) rfl (Nat.le_of_ble_eq_true rfl) ?_
  intro p e s m below meth c A Q H hx hb hml hown hts hA hP hD hK hS hG hret ls hl
  have hown : s.vm.findClass RX9 = some m.cls := hown
  have hP : va_P D vwCl [(u0, .inr (8, [.ref t0, .ref k0, .ref e0, .ref f0, .ref s0, .ref r0, .ref g0, .ref o0, .ref do0, .int dr])), (o0, .inr (7, [.ref o1, .ref o2, .ref o3, .ref o4, .ref o5, .ref o6, .int (nI n), .int (nI k), .int (nI wn), .int (bb wt)])), (o1, .inl (cI, 8, .inl xs)), (o2, .inl (cI, 8, .inl ys)), (o3, .inl (cI, 8, .inl rf)), (o4, .inl (cI, 8, .inl bo)), (o5, .inl (cI, 4, .inl pr)), (o6, .inl (cI, 4, .inl bu)), (f0, .inr (0, [.ref f1, .int bt, .int lc])), (f1, .inl (cI, 8, .inl si))] H := hP
  have hD : va_D A [(u0, .inr (8, [.ref t0, .ref k0, .ref e0, .ref f0, .ref s0, .ref r0, .ref g0, .ref o0, .ref do0, .int dr])), (o0, .inr (7, [.ref o1, .ref o2, .ref o3, .ref o4, .ref o5, .ref o6, .int (nI n), .int (nI k), .int (nI wn), .int (bb wt)])), (o1, .inl (cI, 8, .inl xs)), (o2, .inl (cI, 8, .inl ys)), (o3, .inl (cI, 8, .inl rf)), (o4, .inl (cI, 8, .inl bo)), (o5, .inl (cI, 4, .inl pr)), (o6, .inl (cI, 4, .inl bu)), (f0, .inr (0, [.ref f1, .int bt, .int lc])), (f1, .inl (cI, 8, .inl si))] := hD
  have hl : lv_has ls 4 [(0, .ref u0), (1, .int (nI v)), (2, .int (nI a)), (3, .int (nI w))] := hl
  have w_0 := hts (.fieldLink RX9 61 "UnlikeRoofs" "told" "LUnlikeRoofs$Town;") (List.mem_of_getElem? (i := 1) (by rfl))
  have w_1 := hts (.fieldLink RX9 33 "UnlikeRoofs" "flames" "LUnlikeRoofs$Fire;") (List.mem_of_getElem? (i := 2) (by rfl))
  have wn_0 : (Cond.fieldLinkNest RX9 179 "UnlikeRoofs$Town" "houses" "I" "UnlikeRoofs").before ([.ref u0, .int (nI v), .int (nI a), .int (nI w)] : List Value).toArray s = true := va_Nw.use rfl (hG.1 (.fieldLinkNest RX9 179 "UnlikeRoofs$Town" "houses" "I" "UnlikeRoofs") (List.mem_of_getElem? (i := 22) (by rfl)))
  have hin_X8 : ∀ w ∈ wsX80, w ∈ wsX9_pricesLostIfAll := fun _ h => List.mem_cons_of_mem _ (List.mem_append_left _ (List.mem_append_right _ h))
  have hin_X9 : ∀ w ∈ wsX90, w ∈ wsX9_pricesLostIfAll := fun _ h => List.mem_cons_of_mem _ (List.mem_append_left _ (List.mem_append_left _ (List.mem_append_right _ h)))
  have _h0 : True := trivial
  refine lv_aload_n hx hb dX9_pricesLostIfAll_0 rfl (lv_at hl 0 rfl) ?_
  refine va_get (D := D) (ci := 8) (v := .ref o0) (C := RX9) (T := TX9) (N := 10) hx hb hts hin_X9 hown hK hP 0 rfl rfl 7 (by decide) w_0 (fun _ h9 => h9) rfl dX9_pricesLostIfAll_1 ?_
  refine lv_iload_n hx hb dX9_pricesLostIfAll_4 rfl (lv_at hl 1 rfl) ?_
  refine xcV_i (As := [.int (nI v)]) (rest := []) (wc := [(o0, .inr (7, [.ref o1, .ref o2, .ref o3, .ref o4, .ref o5, .ref o6, .int (nI n), .int (nI k), .int (nI wn), .int (bb wt)])), (o1, .inl (cI, 8, .inl xs)), (o2, .inl (cI, 8, .inl ys)), (o3, .inl (cI, 8, .inl rf)), (o4, .inl (cI, 8, .inl bo)), (o5, .inl (cI, 4, .inl pr)), (o6, .inl (cI, 4, .inl bu))]) (wr := [(u0, .inr (8, [.ref t0, .ref k0, .ref e0, .ref f0, .ref s0, .ref r0, .ref g0, .ref o0, .ref do0, .int dr])), (f0, .inr (0, [.ref f1, .int bt, .int lc])), (f1, .inl (cI, 8, .inl si))]) (w3 := fun (u : Unit) => [(u0, .inr (8, [.ref t0, .ref k0, .ref e0, .ref f0, .ref s0, .ref r0, .ref g0, .ref o0, .ref do0, .int dr])), (o0, .inr (7, [.ref o1, .ref o2, .ref o3, .ref o4, .ref o5, .ref o6, .int (nI n), .int (nI k), .int (nI wn), .int (bb wt)])), (o1, .inl (cI, 8, .inl xs)), (o2, .inl (cI, 8, .inl ys)), (o3, .inl (cI, 8, .inl rf)), (o4, .inl (cI, 8, .inl bo)), (o5, .inl (cI, 4, .inl pr)), (o6, .inl (cI, 4, .inl bu)), (f0, .inr (0, [.ref f1, .int bt, .int lc])), (f1, .inl (cI, 8, .inl si))]) ⟨hx, hb, hml, hown, hts⟩ (c_X8_burnOf l D cI cZ cO H.size o0 o1 o2 o3 o4 o5 o6 xs ys rf bo pr bu n k (nI wn) wt (nI v) (by first | assumption | omega | rfl)) (cwV 1 hts gX9_pricesLostIfAll_X8_burnOf rfl rfl rfl (by decide +kernel) ⟨Nat.le_of_ble_eq_true rfl, Nat.le_of_ble_eq_true rfl⟩) (xGdc gR gD gK gV) xGd0 (fun _ _ _ _ => trivial) hG hP hD hK hS hA [1, 2, 3, 4, 5, 6, 7] [0, 8, 9] [0, 3, 4, 5, 6, 7, 8, 9, 1, 2] rfl rfl rfl rfl rfl 1 rfl rfl rfl (fun _ => rfl) rfl rfl hl.1 (Nat.le_of_ble_eq_true rfl) dX9_pricesLostIfAll_5 ⟨Nat.zero_le _, Nat.zero_le _⟩ (fun r u H locs hw hP hD hS => ?_)
  obtain ⟨rfl, hw⟩ := hw
  have hw_5 : True := hw
  have hP : va_P D vwCl [(u0, .inr (8, [.ref t0, .ref k0, .ref e0, .ref f0, .ref s0, .ref r0, .ref g0, .ref o0, .ref do0, .int dr])), (o0, .inr (7, [.ref o1, .ref o2, .ref o3, .ref o4, .ref o5, .ref o6, .int (nI n), .int (nI k), .int (nI wn), .int (bb wt)])), (o1, .inl (cI, 8, .inl xs)), (o2, .inl (cI, 8, .inl ys)), (o3, .inl (cI, 8, .inl rf)), (o4, .inl (cI, 8, .inl bo)), (o5, .inl (cI, 4, .inl pr)), (o6, .inl (cI, 4, .inl bu)), (f0, .inr (0, [.ref f1, .int bt, .int lc])), (f1, .inl (cI, 8, .inl si))] H := hP
  have hD : va_D A [(u0, .inr (8, [.ref t0, .ref k0, .ref e0, .ref f0, .ref s0, .ref r0, .ref g0, .ref o0, .ref do0, .int dr])), (o0, .inr (7, [.ref o1, .ref o2, .ref o3, .ref o4, .ref o5, .ref o6, .int (nI n), .int (nI k), .int (nI wn), .int (bb wt)])), (o1, .inl (cI, 8, .inl xs)), (o2, .inl (cI, 8, .inl ys)), (o3, .inl (cI, 8, .inl rf)), (o4, .inl (cI, 8, .inl bo)), (o5, .inl (cI, 4, .inl pr)), (o6, .inl (cI, 4, .inl bu)), (f0, .inr (0, [.ref f1, .int bt, .int lc])), (f1, .inl (cI, 8, .inl si))] := hD
  refine lv_if_ne (tgt := 13) hx hb dX9_pricesLostIfAll_8 (by decide) (fun c_8 => ?_) (fun c_8 => ?_)
  ·
    refine lv_aload_n hx hb dX9_pricesLostIfAll_13 rfl (lv_at hl 0 rfl) ?_
    refine va_get (D := D) (ci := 8) (v := .ref f0) (C := RX9) (T := TX9) (N := 10) hx hb hts hin_X9 hown hK hP 0 rfl rfl 3 (by decide) w_1 (fun _ h9 => h9) rfl dX9_pricesLostIfAll_14 ?_
    refine lv_aload_n hx hb dX9_pricesLostIfAll_17 rfl (lv_at hl 0 rfl) ?_
    refine va_get (D := D) (ci := 8) (v := .ref o0) (C := RX9) (T := TX9) (N := 10) hx hb hts hin_X9 hown hK hP 0 rfl rfl 7 (by decide) w_0 (fun _ h9 => h9) rfl dX9_pricesLostIfAll_18 ?_
    refine lv_iconst (v := (1 : Int32)) hx hb dX9_pricesLostIfAll_21 (by decide) ?_
    refine lv_aload_n hx hb dX9_pricesLostIfAll_22 rfl (lv_at hl 0 rfl) ?_
    refine va_get (D := D) (ci := 8) (v := .ref o0) (C := RX9) (T := TX9) (N := 10) hx hb hts hin_X9 hown hK hP 0 rfl rfl 7 (by decide) w_0 (fun _ h9 => h9) rfl dX9_pricesLostIfAll_23 ?_
    refine va_getN (D := D) (ci := 7) (v := .int (nI n)) (C := RX8) (T := TX8) (N := 10) hx hb hts hin_X8 hown hK hP 1 rfl rfl 6 (by decide) wn_0 (fun _ h9 => h9) rfl dX9_pricesLostIfAll_26 ?_
    refine lv_ishl hx hb dX9_pricesLostIfAll_29 ?_
    refine lv_topr (x' := nI (2 ^ n)) (sh1 (by omega)) ?_
    refine lv_iconst (v := (1 : Int32)) hx hb dX9_pricesLostIfAll_30 (by decide) ?_
    refine lv_isub hx hb dX9_pricesLostIfAll_31 ?_
    refine lv_topr (x' := nI (2 ^ n - 1)) (pk_sub (Nat.one_le_two_pow)) ?_
    refine lv_iload_n hx hb dX9_pricesLostIfAll_32 rfl (lv_at hl 3 rfl) ?_
    refine lv_iload_n hx hb dX9_pricesLostIfAll_33 rfl (lv_at hl 2 rfl) ?_
    refine xcV_v (As := [.ref o0, .int (nI (2 ^ n - 1)), .int (nI w), .int (nI a)]) (rest := []) (wc := [(f0, .inr (0, [.ref f1, .int bt, .int lc])), (f1, .inl (cI, 8, .inl si)), (o0, .inr (7, [.ref o1, .ref o2, .ref o3, .ref o4, .ref o5, .ref o6, .int (nI n), .int (nI k), .int (nI wn), .int (bb wt)])), (o1, .inl (cI, 8, .inl xs)), (o2, .inl (cI, 8, .inl ys)), (o3, .inl (cI, 8, .inl rf)), (o4, .inl (cI, 8, .inl bo)), (o5, .inl (cI, 4, .inl pr)), (o6, .inl (cI, 4, .inl bu))]) (wr := [(u0, .inr (8, [.ref t0, .ref k0, .ref e0, .ref f0, .ref s0, .ref r0, .ref g0, .ref o0, .ref do0, .int dr]))]) (w3 := fun (u : (Nat → Int32) × Nat × Nat) => [(u0, .inr (8, [.ref t0, .ref k0, .ref e0, .ref f0, .ref s0, .ref r0, .ref g0, .ref o0, .ref do0, .int dr])), (o0, .inr (7, [.ref o1, .ref o2, .ref o3, .ref o4, .ref o5, .ref o6, .int (nI n), .int (nI k), .int (nI wn), .int (bb wt)])), (o1, .inl (cI, 8, .inl xs)), (o2, .inl (cI, 8, .inl ys)), (o3, .inl (cI, 8, .inl rf)), (o4, .inl (cI, 8, .inl bo)), (o5, .inl (cI, 4, .inl pr)), (o6, .inl (cI, 4, .inl bu)), (f0, .inr (0, [.ref f1, .int (nI (u.2.1)), .int (nI (u.2.2))])), (f1, .inl (cI, 8, .inl (u.1)))]) ⟨hx, hb, hml, hown, hts⟩ (c_X0_spread l D cI cZ cO H.size gR gD gK gV f0 f1 bt lc si o0 o1 o2 o3 o4 o5 o6 xs ys rf bo pr bu n k (nI wn) wt (2 ^ n - 1) w a (fun _ => nI v) (by first | assumption | omega | rfl) (by first | assumption | omega | rfl) (by first | assumption | omega | rfl) (by first | assumption | omega | rfl) (all_mk n)) (cwV 4 hts gX9_pricesLostIfAll_X0_spread rfl rfl rfl (by decide +kernel) ⟨Nat.le_of_ble_eq_true rfl, Nat.le_of_ble_eq_true rfl⟩) (xGdc gR gD gK gV) (xGdc gR gD gK gV) (fun _ _ _ h => h) hG hP hD hK hS hA [8, 9, 1, 2, 3, 4, 5, 6, 7] [0] [0, 3, 4, 5, 6, 7, 8, 9, 1, 2] rfl rfl rfl rfl rfl 8 rfl rfl rfl (fun _ => rfl) rfl rfl hl.1 (Nat.le_of_ble_eq_true rfl) dX9_pricesLostIfAll_34 ⟨Nat.zero_le _, Nat.zero_le _⟩ (fun u H locs hw hP hD hS => ?_)
    obtain ⟨z_1, z_2, z_3⟩ := u
    have hw_34 : (∀ h, h < 8 → z_1 h = fS (fun _ => nI v) xs ys n (nI w) a 98 h) ∧ z_2 = mkM (litB (fS (fun _ => nI v) xs ys n (nI w) a 98)) n ∧ lastP (fS (fun _ => nI v) xs ys n (nI w) a 98) n z_3 := hw
    have hP : va_P D vwCl [(u0, .inr (8, [.ref t0, .ref k0, .ref e0, .ref f0, .ref s0, .ref r0, .ref g0, .ref o0, .ref do0, .int dr])), (o0, .inr (7, [.ref o1, .ref o2, .ref o3, .ref o4, .ref o5, .ref o6, .int (nI n), .int (nI k), .int (nI wn), .int (bb wt)])), (o1, .inl (cI, 8, .inl xs)), (o2, .inl (cI, 8, .inl ys)), (o3, .inl (cI, 8, .inl rf)), (o4, .inl (cI, 8, .inl bo)), (o5, .inl (cI, 4, .inl pr)), (o6, .inl (cI, 4, .inl bu)), (f0, .inr (0, [.ref f1, .int (nI z_2), .int (nI z_3)])), (f1, .inl (cI, 8, .inl z_1))] H := hP
    have hD : va_D A [(u0, .inr (8, [.ref t0, .ref k0, .ref e0, .ref f0, .ref s0, .ref r0, .ref g0, .ref o0, .ref do0, .int dr])), (o0, .inr (7, [.ref o1, .ref o2, .ref o3, .ref o4, .ref o5, .ref o6, .int (nI n), .int (nI k), .int (nI wn), .int (bb wt)])), (o1, .inl (cI, 8, .inl xs)), (o2, .inl (cI, 8, .inl ys)), (o3, .inl (cI, 8, .inl rf)), (o4, .inl (cI, 8, .inl bo)), (o5, .inl (cI, 4, .inl pr)), (o6, .inl (cI, 4, .inl bu)), (f0, .inr (0, [.ref f1, .int (nI z_2), .int (nI z_3)])), (f1, .inl (cI, 8, .inl z_1))] := hD
    have hbq : z_2 < 256 := by rw [hw_34.2.1]; exact mkM_256 hn
    refine lv_aload_n hx hb dX9_pricesLostIfAll_37 rfl (lv_at hl 0 rfl) ?_
    refine va_get (D := D) (ci := 8) (v := .ref f0) (C := RX9) (T := TX9) (N := 10) hx hb hts hin_X9 hown hK hP 0 rfl rfl 3 (by decide) w_1 (fun _ h9 => h9) rfl dX9_pricesLostIfAll_38 ?_
    refine xcV_i (As := []) (rest := []) (wc := [(f0, .inr (0, [.ref f1, .int (nI z_2), .int (nI z_3)])), (f1, .inl (cI, 8, .inl z_1))]) (wr := [(u0, .inr (8, [.ref t0, .ref k0, .ref e0, .ref f0, .ref s0, .ref r0, .ref g0, .ref o0, .ref do0, .int dr])), (o0, .inr (7, [.ref o1, .ref o2, .ref o3, .ref o4, .ref o5, .ref o6, .int (nI n), .int (nI k), .int (nI wn), .int (bb wt)])), (o1, .inl (cI, 8, .inl xs)), (o2, .inl (cI, 8, .inl ys)), (o3, .inl (cI, 8, .inl rf)), (o4, .inl (cI, 8, .inl bo)), (o5, .inl (cI, 4, .inl pr)), (o6, .inl (cI, 4, .inl bu))]) (w3 := fun (u : Unit) => [(u0, .inr (8, [.ref t0, .ref k0, .ref e0, .ref f0, .ref s0, .ref r0, .ref g0, .ref o0, .ref do0, .int dr])), (o0, .inr (7, [.ref o1, .ref o2, .ref o3, .ref o4, .ref o5, .ref o6, .int (nI n), .int (nI k), .int (nI wn), .int (bb wt)])), (o1, .inl (cI, 8, .inl xs)), (o2, .inl (cI, 8, .inl ys)), (o3, .inl (cI, 8, .inl rf)), (o4, .inl (cI, 8, .inl bo)), (o5, .inl (cI, 4, .inl pr)), (o6, .inl (cI, 4, .inl bu)), (f0, .inr (0, [.ref f1, .int (nI z_2), .int (nI z_3)])), (f1, .inl (cI, 8, .inl z_1))]) ⟨hx, hb, hml, hown, hts⟩ (c_X0_howMany l D cI cZ cO H.size f0 f1 z_2 (nI z_3) z_1 (hbq)) (cwV 0 hts gX9_pricesLostIfAll_X0_howMany rfl rfl rfl (by decide +kernel) ⟨Nat.le_of_ble_eq_true rfl, Nat.le_of_ble_eq_true rfl⟩) (xGdc gR gD gK gV) xGd0 (fun _ _ _ _ => trivial) hG hP hD hK hS hA [8, 9] [0, 1, 2, 3, 4, 5, 6, 7] [0, 1, 2, 3, 4, 5, 6, 7, 8, 9] rfl rfl rfl rfl rfl 8 rfl rfl rfl (fun _ => rfl) rfl rfl hl.1 (Nat.le_of_ble_eq_true rfl) dX9_pricesLostIfAll_41 ⟨Nat.zero_le _, Nat.zero_le _⟩ (fun r u H locs hw hP hD hS => ?_)
    obtain ⟨rfl, hw⟩ := hw
    have hw_41 : True := hw
    have hP : va_P D vwCl [(u0, .inr (8, [.ref t0, .ref k0, .ref e0, .ref f0, .ref s0, .ref r0, .ref g0, .ref o0, .ref do0, .int dr])), (o0, .inr (7, [.ref o1, .ref o2, .ref o3, .ref o4, .ref o5, .ref o6, .int (nI n), .int (nI k), .int (nI wn), .int (bb wt)])), (o1, .inl (cI, 8, .inl xs)), (o2, .inl (cI, 8, .inl ys)), (o3, .inl (cI, 8, .inl rf)), (o4, .inl (cI, 8, .inl bo)), (o5, .inl (cI, 4, .inl pr)), (o6, .inl (cI, 4, .inl bu)), (f0, .inr (0, [.ref f1, .int (nI z_2), .int (nI z_3)])), (f1, .inl (cI, 8, .inl z_1))] H := hP
    have hD : va_D A [(u0, .inr (8, [.ref t0, .ref k0, .ref e0, .ref f0, .ref s0, .ref r0, .ref g0, .ref o0, .ref do0, .int dr])), (o0, .inr (7, [.ref o1, .ref o2, .ref o3, .ref o4, .ref o5, .ref o6, .int (nI n), .int (nI k), .int (nI wn), .int (bb wt)])), (o1, .inl (cI, 8, .inl xs)), (o2, .inl (cI, 8, .inl ys)), (o3, .inl (cI, 8, .inl rf)), (o4, .inl (cI, 8, .inl bo)), (o5, .inl (cI, 4, .inl pr)), (o6, .inl (cI, 4, .inl bu)), (f0, .inr (0, [.ref f1, .int (nI z_2), .int (nI z_3)])), (f1, .inl (cI, 8, .inl z_1))] := hD
    refine lv_aload_n hx hb dX9_pricesLostIfAll_44 rfl (lv_at hl 0 rfl) ?_
    refine va_get (D := D) (ci := 8) (v := .ref o0) (C := RX9) (T := TX9) (N := 10) hx hb hts hin_X9 hown hK hP 0 rfl rfl 7 (by decide) w_0 (fun _ h9 => h9) rfl dX9_pricesLostIfAll_45 ?_
    refine lv_iload_n hx hb dX9_pricesLostIfAll_48 rfl (lv_at hl 1 rfl) ?_
    refine xcV_i (As := [.int (nI v)]) (rest := [.int (nI (popc z_2))]) (wc := [(o0, .inr (7, [.ref o1, .ref o2, .ref o3, .ref o4, .ref o5, .ref o6, .int (nI n), .int (nI k), .int (nI wn), .int (bb wt)])), (o1, .inl (cI, 8, .inl xs)), (o2, .inl (cI, 8, .inl ys)), (o3, .inl (cI, 8, .inl rf)), (o4, .inl (cI, 8, .inl bo)), (o5, .inl (cI, 4, .inl pr)), (o6, .inl (cI, 4, .inl bu))]) (wr := [(u0, .inr (8, [.ref t0, .ref k0, .ref e0, .ref f0, .ref s0, .ref r0, .ref g0, .ref o0, .ref do0, .int dr])), (f0, .inr (0, [.ref f1, .int (nI z_2), .int (nI z_3)])), (f1, .inl (cI, 8, .inl z_1))]) (w3 := fun (u : Unit) => [(u0, .inr (8, [.ref t0, .ref k0, .ref e0, .ref f0, .ref s0, .ref r0, .ref g0, .ref o0, .ref do0, .int dr])), (o0, .inr (7, [.ref o1, .ref o2, .ref o3, .ref o4, .ref o5, .ref o6, .int (nI n), .int (nI k), .int (nI wn), .int (bb wt)])), (o1, .inl (cI, 8, .inl xs)), (o2, .inl (cI, 8, .inl ys)), (o3, .inl (cI, 8, .inl rf)), (o4, .inl (cI, 8, .inl bo)), (o5, .inl (cI, 4, .inl pr)), (o6, .inl (cI, 4, .inl bu)), (f0, .inr (0, [.ref f1, .int (nI z_2), .int (nI z_3)])), (f1, .inl (cI, 8, .inl z_1))]) ⟨hx, hb, hml, hown, hts⟩ (c_X8_priceOf l D cI cZ cO H.size o0 o1 o2 o3 o4 o5 o6 xs ys rf bo pr bu n k (nI wn) wt (nI v) (by first | assumption | omega | rfl)) (cwV 1 hts gX9_pricesLostIfAll_X8_priceOf rfl rfl rfl (by decide +kernel) ⟨Nat.le_of_ble_eq_true rfl, Nat.le_of_ble_eq_true rfl⟩) (xGdc gR gD gK gV) xGd0 (fun _ _ _ _ => trivial) hG hP hD hK hS hA [1, 2, 3, 4, 5, 6, 7] [0, 8, 9] [0, 3, 4, 5, 6, 7, 8, 9, 1, 2] rfl rfl rfl rfl rfl 1 rfl rfl rfl (fun _ => rfl) rfl rfl hl.1 (Nat.le_of_ble_eq_true rfl) dX9_pricesLostIfAll_49 ⟨Nat.zero_le _, Nat.zero_le _⟩ (fun r u H locs hw hP hD hS => ?_)
    obtain ⟨rfl, hw⟩ := hw
    have hw_49 : True := hw
    have hP : va_P D vwCl [(u0, .inr (8, [.ref t0, .ref k0, .ref e0, .ref f0, .ref s0, .ref r0, .ref g0, .ref o0, .ref do0, .int dr])), (o0, .inr (7, [.ref o1, .ref o2, .ref o3, .ref o4, .ref o5, .ref o6, .int (nI n), .int (nI k), .int (nI wn), .int (bb wt)])), (o1, .inl (cI, 8, .inl xs)), (o2, .inl (cI, 8, .inl ys)), (o3, .inl (cI, 8, .inl rf)), (o4, .inl (cI, 8, .inl bo)), (o5, .inl (cI, 4, .inl pr)), (o6, .inl (cI, 4, .inl bu)), (f0, .inr (0, [.ref f1, .int (nI z_2), .int (nI z_3)])), (f1, .inl (cI, 8, .inl z_1))] H := hP
    have hD : va_D A [(u0, .inr (8, [.ref t0, .ref k0, .ref e0, .ref f0, .ref s0, .ref r0, .ref g0, .ref o0, .ref do0, .int dr])), (o0, .inr (7, [.ref o1, .ref o2, .ref o3, .ref o4, .ref o5, .ref o6, .int (nI n), .int (nI k), .int (nI wn), .int (bb wt)])), (o1, .inl (cI, 8, .inl xs)), (o2, .inl (cI, 8, .inl ys)), (o3, .inl (cI, 8, .inl rf)), (o4, .inl (cI, 8, .inl bo)), (o5, .inl (cI, 4, .inl pr)), (o6, .inl (cI, 4, .inl bu)), (f0, .inr (0, [.ref f1, .int (nI z_2), .int (nI z_3)])), (f1, .inl (cI, 8, .inl z_1))] := hD
    refine lv_topr (x' := nI (prN pr k (nI v))) ((prN_nI hk hpo _).1) ?_
    refine lv_imul hx hb dX9_pricesLostIfAll_52 ?_
    refine lv_topr (x' := nI ((popc z_2) * (prN pr k (nI v)))) (pk_mul (popc z_2) (prN pr k (nI v))) ?_
    exact hret _ (z_1, nI z_2, nI z_3) _ _ _ _ (rfl) (⟨by rw [lostN, burB, if_pos (decide_eq_true (bu_pos hk hpo c_8)), hw_34.2.1, popc_cnt hn]; rfl, trivial⟩) hP hD hS dX9_pricesLostIfAll_53
  ·
    refine lv_iconst (v := (0 : Int32)) hx hb dX9_pricesLostIfAll_11 (by decide) ?_
    exact hret _ (si, bt, lc) _ _ _ _ (rfl) (⟨by rw [lostN, burB, if_neg (fun q => by have z := of_decide_eq_true q; rw [c_8] at z; exact absurd z (by decide))]; rfl, trivial⟩) hP hD hS dX9_pricesLostIfAll_12

set_option maxHeartbeats 4000000 in
set_option maxRecDepth 100000 in
theorem c_X9_nextDraw (l : Launch) (D : va_G) (cI cZ cO : ClassId) (sz : Nat) (gR : Nat) (gD : Nat) (gK : Nat → Nat) (gV : Nat → Nat) (u0 : Nat) (t0 : Nat) (k0 : Nat) (e0 : Nat) (f0 : Nat) (s0 : Nat) (r0 : Nat) (g0 : Nat) (o0 : Nat) (do0 : Nat) (dr : Int32)  : xMi l yX9_nextDraw wsX9_nextDraw (0) (0) D (TY cI cZ cO) (xGc gR gD gK gV) [.ref u0] [(u0, .inr (8, [.ref t0, .ref k0, .ref e0, .ref f0, .ref s0, .ref r0, .ref g0, .ref o0, .ref do0, .int dr]))] sz (fun (rv_ : Int32) (u : Unit) => rv_ = (nI (drN (nxt dr))) ∧ (True)) (fun (u : Unit) => [(u0, .inr (8, [.ref t0, .ref k0, .ref e0, .ref f0, .ref s0, .ref r0, .ref g0, .ref o0, .ref do0, .int (nxt dr)]))]) := by
  refine xMi.of (cc := cX9_nextDraw) (maxL := 1) (by decide +kernel) rfl (Nat.le_of_ble_eq_true rfl) ?_
  intro p e s m below meth c A Q H hx hb hml hown hts hA hP hD hK hS hG hret ls hl
  have hown : s.vm.findClass RX9 = some m.cls := hown
  have hP : va_P D vwCl [(u0, .inr (8, [.ref t0, .ref k0, .ref e0, .ref f0, .ref s0, .ref r0, .ref g0, .ref o0, .ref do0, .int dr]))] H := hP
  have hD : va_D A [(u0, .inr (8, [.ref t0, .ref k0, .ref e0, .ref f0, .ref s0, .ref r0, .ref g0, .ref o0, .ref do0, .int dr]))] := hD
  have hl : lv_has ls 1 [(0, .ref u0)] := hl
  have w_0 := hts (.fieldLink RX9 68 "UnlikeRoofs" "drawn" "I") (List.mem_of_getElem? (i := 1) (by rfl))
  have w_1 := hts (.constant RX9 247 (1103515245)) (List.mem_of_getElem? (i := 2) (by rfl))
  have hin_X9 : ∀ w ∈ wsX90, w ∈ wsX9_nextDraw := fun _ h => List.mem_cons_of_mem _ (List.mem_append_right _ h)
  have _h0 : True := trivial
  refine lv_aload_n hx hb dX9_nextDraw_0 rfl (lv_at hl 0 rfl) ?_
  refine lv_aload_n hx hb dX9_nextDraw_1 rfl (lv_at hl 0 rfl) ?_
  refine va_get (D := D) (ci := 8) (v := .int dr) (C := RX9) (T := TX9) (N := 10) hx hb hts hin_X9 hown hK hP 0 rfl rfl 9 (by decide) w_0 (fun _ h9 => h9) rfl dX9_nextDraw_2 ?_
  refine lv_ldc hx hb hown w_1 dX9_nextDraw_5 ?_
  refine lv_imul hx hb dX9_nextDraw_7 ?_
  refine lv_sipush (v := (12345 : Int32)) hx hb dX9_nextDraw_8 (by decide) ?_
  refine lv_iadd hx hb dX9_nextDraw_11 ?_
  refine lv_topr (x' := nxt dr) (rfl) ?_
  refine va_put (D := D) (ci := 8) (v := .int (nxt dr)) (ty := .int) (C := RX9) (T := TX9) (N := 10) hx hb hts hin_X9 tyX9 tyX9_ok nmX9 hown hK hP hD hS 0 rfl rfl 9 (by decide) w_0 (fun _ h9 => h9) rfl (by decide +kernel) rfl rfl (Nat.le_of_ble_eq_true rfl) dX9_nextDraw_12 (fun H locs hP hD hS => ?_)
  have hP : va_P D vwCl [(u0, .inr (8, [.ref t0, .ref k0, .ref e0, .ref f0, .ref s0, .ref r0, .ref g0, .ref o0, .ref do0, .int (nxt dr)]))] H := hP
  have hD : va_D A [(u0, .inr (8, [.ref t0, .ref k0, .ref e0, .ref f0, .ref s0, .ref r0, .ref g0, .ref o0, .ref do0, .int (nxt dr)]))] := hD
  refine lv_aload_n hx hb dX9_nextDraw_15 rfl (lv_at hl 0 rfl) ?_
  refine va_get (D := D) (ci := 8) (v := .int (nxt dr)) (C := RX9) (T := TX9) (N := 10) hx hb hts hin_X9 hown hK hP 0 rfl rfl 9 (by decide) w_0 (fun _ h9 => h9) rfl dX9_nextDraw_16 ?_
  refine lv_bipush (v := (16 : Int32)) hx hb dX9_nextDraw_19 (by decide) ?_
  refine lv_iushr hx hb dX9_nextDraw_21 rfl ?_
  refine lv_topr (x' := nI (drN (nxt dr))) (dr_cls _) ?_
  exact hret _ () _ _ _ _ (rfl) (⟨rfl, trivial⟩) hP hD hS dX9_nextDraw_22

set_option maxHeartbeats 4000000 in
set_option maxRecDepth 100000 in
theorem c_X9_greatestCommon (l : Launch) (D : va_G) (cI cZ cO : ClassId) (sz : Nat) (gR : Nat) (gD : Nat) (gK : Nat → Nat) (gV : Nat → Nat) (a : Nat) (b : Nat) (ha : a < 2147483648) (hb2 : b ≤ 8) : xMi l yX9_greatestCommon wsX9_greatestCommon (0) (0) D (TY cI cZ cO) (xGc gR gD gK gV) [.int (nI a), .int (nI b)] [] sz (fun (rv_ : Int32) (u : Unit) => rv_ = (nI (Nat.gcd a b)) ∧ (True)) (fun (u : Unit) => []) := by
  refine xMi.of (cc := cX9_greatestCommon) (maxL := 6) (by decide +kernel) rfl (Nat.le_of_ble_eq_true rfl) ?_
  intro p e s m below meth c A Q H hx hb hml hown hts hA hP hD hK hS hG hret ls hl
  have hown : s.vm.findClass RX9 = some m.cls := hown
  have hP : va_P D vwCl [] H := hP
  have hD : va_D A [] := hD
  have hl : lv_has ls 6 [(0, .int (nI a)), (1, .int (nI b))] := hl
  have _h0 : True := trivial
  refine lv_iload_n hx hb dX9_greatestCommon_0 rfl (lv_at hl 0 rfl) ?_
  refine lv_istore_n (lv' := [(2, .int (nI a)), (0, .int (nI a)), (1, .int (nI b))]) hx hb dX9_greatestCommon_1 rfl hl (by decide) rfl (fun ls hl => ?_)
  refine lv_iload_n hx hb dX9_greatestCommon_2 rfl (lv_at hl 2 rfl) ?_
  refine lv_istore_n (lv' := [(3, .int (nI b)), (2, .int (nI a)), (0, .int (nI a)), (1, .int (nI b))]) hx hb dX9_greatestCommon_3 rfl hl (by decide) rfl (fun ls hl => ?_)
  refine lv_iconst (v := (0 : Int32)) hx hb dX9_greatestCommon_4 (by decide) ?_
  refine lv_istore (lv' := [(4, .int (0 : Int32)), (3, .int (nI b)), (2, .int (nI a)), (0, .int (nI a)), (1, .int (nI b))]) hx hb dX9_greatestCommon_5 hl (by decide) rfl (fun ls hl => ?_)
  have L_7 : ∀ (fuel : Nat) (pv : Nat) (qv : Nat) (st_ : Nat), (pv < 2147483648) → (st_ + qv ≤ 8) → (Nat.gcd pv qv = Nat.gcd a b) → (qv) < fuel → ∀ (H : Heap) (locs : List Loc), va_P D vwCl [] H → va_D A [] → va_S A s.heap H locs → ∀ ls : Array Slot, lv_has ls 6 [(4, .int (nI st_)), (3, .int (nI qv)), (2, .int (nI pv)), (0, .int (nI a)), (1, .int (nI b))] → W p l e (xRm 0 0) s m ([.int (nI a), .int (nI b)] : List Value).toArray below meth c H locs 0 0 Q (F0 m 7 ls []) := by
    intro fuel
    induction fuel with
    | zero =>
      intro pv qv st_ hp hq hg hm
      exact absurd hm (Nat.not_lt_zero _)
    | succ fuel ih_7 =>
      intro pv qv st_ hp hq hg hm_7 H locs hP hD hS ls hl
      refine lv_iload hx hb dX9_greatestCommon_7 (lv_at hl 0 rfl) ?_
      refine lv_bipush (v := (64 : Int32)) hx hb dX9_greatestCommon_9 (by decide) ?_
      refine lv_icmp_ge (tgt := 34) hx hb dX9_greatestCommon_11 (by decide) (fun c_11 => ?_) (fun c_11 => ?_)
      ·
        have n_11 : 64 ≤ st_ := (nI_leI (show 64 < 2147483648 by omega) (show st_ < 2147483648 by omega)).1 c_11
        exact absurd n_11 (by omega)
      ·
        have n_11 : st_ < 64 := Nat.lt_of_not_le (fun q => c_11 ((nI_leI (show 64 < 2147483648 by omega) (show st_ < 2147483648 by omega)).2 q))
        refine lv_iload_n hx hb dX9_greatestCommon_14 rfl (lv_at hl 1 rfl) ?_
        refine lv_if_eq (tgt := 34) hx hb dX9_greatestCommon_15 (by decide) (fun c_15 => ?_) (fun c_15 => ?_)
        ·
          have n_15 : qv = 0 := (nI_eq (show qv < 2147483648 by omega) (show 0 < 2147483648 by omega)).1 c_15
          refine lv_iload_n hx hb dX9_greatestCommon_34 rfl (lv_at hl 2 rfl) ?_
          exact hret _ () _ _ _ _ (rfl) (⟨by rw [← hg, n_15, Nat.gcd_zero_right], trivial⟩) hP hD hS dX9_greatestCommon_35
        ·
          have n_15 : ¬ qv = 0 := fun q => c_15 (congrArg nI q)
          refine lv_iload_n hx hb dX9_greatestCommon_18 rfl (lv_at hl 2 rfl) ?_
          refine lv_iload_n hx hb dX9_greatestCommon_19 rfl (lv_at hl 1 rfl) ?_
          refine lv_irem hx hb dX9_greatestCommon_20 (nI_ne0b (by omega) (by omega)) ?_
          refine lv_topr (x' := nI (pv % qv)) (pk_rem hp (by omega) (by omega)) ?_
          refine lv_istore (lv' := [(5, .int (nI (pv % qv))), (4, .int (nI st_)), (3, .int (nI qv)), (2, .int (nI pv)), (0, .int (nI a)), (1, .int (nI b))]) hx hb dX9_greatestCommon_21 hl (by decide) rfl (fun ls hl => ?_)
          refine lv_iload_n hx hb dX9_greatestCommon_23 rfl (lv_at hl 2 rfl) ?_
          refine lv_istore_n (lv' := [(2, .int (nI qv)), (5, .int (nI (pv % qv))), (4, .int (nI st_)), (3, .int (nI qv)), (0, .int (nI a)), (1, .int (nI b))]) hx hb dX9_greatestCommon_24 rfl hl (by decide) rfl (fun ls hl => ?_)
          refine lv_iload hx hb dX9_greatestCommon_25 (lv_at hl 1 rfl) ?_
          refine lv_istore_n (lv' := [(3, .int (nI (pv % qv))), (2, .int (nI qv)), (5, .int (nI (pv % qv))), (4, .int (nI st_)), (0, .int (nI a)), (1, .int (nI b))]) hx hb dX9_greatestCommon_27 rfl hl (by decide) rfl (fun ls hl => ?_)
          refine lv_iinc (v := nI (st_ + 1)) (lv' := [(4, .int (nI (st_ + 1))), (3, .int (nI (pv % qv))), (2, .int (nI qv)), (5, .int (nI (pv % qv))), (0, .int (nI a)), (1, .int (nI b))]) hx hb dX9_greatestCommon_28 hl (k := 3) rfl (by first | rfl | exact nI_add _ 1 | (simp only [] ; exact nI_add _ 1)) (by decide) rfl (fun ls hl => ?_)
          refine lv_goto (tgt := 7) hx hb dX9_greatestCommon_31 (by decide) ?_
          exact ih_7 qv (pv % qv) (st_ + 1) (by omega) (by have := Nat.mod_lt pv (show 0 < qv by omega); omega) ((Nat.gcd_comm _ _).trans ((Nat.gcd_rec qv pv).symm.trans ((Nat.gcd_comm _ _).trans hg))) (by have := Nat.mod_lt pv (show 0 < qv by omega); omega) _ _ hP hD hS _ (lv_sub hl [0, 1, 2, 4, 5] rfl)
  exact L_7 (Nat.succ (b)) a b 0 (ha) (by omega) (rfl) (Nat.lt_succ_self _) _ _ hP hD hS _ (lv_sub hl [0, 1, 2, 3, 4] rfl)

set_option maxHeartbeats 4000000 in
set_option maxRecDepth 100000 in
theorem c_X9_worst (l : Launch) (D : va_G) (cI cZ cO : ClassId) (sz : Nat) (gR : Nat) (gD : Nat) (gK : Nat → Nat) (gV : Nat → Nat) (u0 : Nat) (t0 : Nat) (k0 : Nat) (e0 : Nat) (f0 : Nat) (s0 : Nat) (r0 : Nat) (g0 : Nat) (o0 : Nat) (do0 : Nat) (dr : Int32) (o1 : Nat) (o2 : Nat) (o3 : Nat) (o4 : Nat) (o5 : Nat) (o6 : Nat) (xs : Nat → Int32) (ys : Nat → Int32) (rf : Nat → Int32) (bo : Nat → Int32) (pr : Nat → Int32) (bu : Nat → Int32) (n : Nat) (k : Nat) (wn : Nat) (wt : Bool) (f1 : Nat) (bt : Int32) (lc : Int32) (si : Nat → Int32) (hn : n ≤ 8) (hk : k ≤ 4) (hc : cOK n xs ys) (hpo : pOK k pr bu) (hwn : wn ≤ 4) : xMi l yX9_worst wsX9_worst (5) (119) D (TY cI cZ cO) (xGc gR gD gK gV) [.ref u0] [(u0, .inr (8, [.ref t0, .ref k0, .ref e0, .ref f0, .ref s0, .ref r0, .ref g0, .ref o0, .ref do0, .int dr])), (o0, .inr (7, [.ref o1, .ref o2, .ref o3, .ref o4, .ref o5, .ref o6, .int (nI n), .int (nI k), .int (nI wn), .int (bb wt)])), (o1, .inl (cI, 8, .inl xs)), (o2, .inl (cI, 8, .inl ys)), (o3, .inl (cI, 8, .inl rf)), (o4, .inl (cI, 8, .inl bo)), (o5, .inl (cI, 4, .inl pr)), (o6, .inl (cI, 4, .inl bu)), (f0, .inr (0, [.ref f1, .int bt, .int lc])), (f1, .inl (cI, 8, .inl si))] sz (fun (rv_ : Int32) (u : (Nat → Int32) × Int32 × Int32) => rv_ = ((wstR (lostN xs ys rf pr bu n k (nI wn)) (burB bu k rf) n).1) ∧ (True)) (fun (u : (Nat → Int32) × Int32 × Int32) => [(u0, .inr (8, [.ref t0, .ref k0, .ref e0, .ref f0, .ref s0, .ref r0, .ref g0, .ref o0, .ref do0, .int dr])), (o0, .inr (7, [.ref o1, .ref o2, .ref o3, .ref o4, .ref o5, .ref o6, .int (nI n), .int (nI k), .int (nI wn), .int (bb wt)])), (o1, .inl (cI, 8, .inl xs)), (o2, .inl (cI, 8, .inl ys)), (o3, .inl (cI, 8, .inl rf)), (o4, .inl (cI, 8, .inl bo)), (o5, .inl (cI, 4, .inl pr)), (o6, .inl (cI, 4, .inl bu)), (f0, .inr (0, [.ref f1, .int (u.2.1), .int (u.2.2)])), (f1, .inl (cI, 8, .inl (u.1)))]) := by
  refine xMi.of (cc := cX9_worst) (maxL := 5) (by decide +kernel) rfl (Nat.le_of_ble_eq_true rfl) ?_
  intro p e s m below meth c A Q H hx hb hml hown hts hA hP hD hK hS hG hret ls hl
  have hown : s.vm.findClass RX9 = some m.cls := hown
  have hP : va_P D vwCl [(u0, .inr (8, [.ref t0, .ref k0, .ref e0, .ref f0, .ref s0, .ref r0, .ref g0, .ref o0, .ref do0, .int dr])), (o0, .inr (7, [.ref o1, .ref o2, .ref o3, .ref o4, .ref o5, .ref o6, .int (nI n), .int (nI k), .int (nI wn), .int (bb wt)])), (o1, .inl (cI, 8, .inl xs)), (o2, .inl (cI, 8, .inl ys)), (o3, .inl (cI, 8, .inl rf)), (o4, .inl (cI, 8, .inl bo)), (o5, .inl (cI, 4, .inl pr)), (o6, .inl (cI, 4, .inl bu)), (f0, .inr (0, [.ref f1, .int bt, .int lc])), (f1, .inl (cI, 8, .inl si))] H := hP
  have hD : va_D A [(u0, .inr (8, [.ref t0, .ref k0, .ref e0, .ref f0, .ref s0, .ref r0, .ref g0, .ref o0, .ref do0, .int dr])), (o0, .inr (7, [.ref o1, .ref o2, .ref o3, .ref o4, .ref o5, .ref o6, .int (nI n), .int (nI k), .int (nI wn), .int (bb wt)])), (o1, .inl (cI, 8, .inl xs)), (o2, .inl (cI, 8, .inl ys)), (o3, .inl (cI, 8, .inl rf)), (o4, .inl (cI, 8, .inl bo)), (o5, .inl (cI, 4, .inl pr)), (o6, .inl (cI, 4, .inl bu)), (f0, .inr (0, [.ref f1, .int bt, .int lc])), (f1, .inl (cI, 8, .inl si))] := hD
  have hl : lv_has ls 5 [(0, .ref u0)] := hl
  have w_0 := hts (.fieldLink RX9 61 "UnlikeRoofs" "told" "LUnlikeRoofs$Town;") (List.mem_of_getElem? (i := 1) (by rfl))
  have wn_0 : (Cond.fieldLinkNest RX9 179 "UnlikeRoofs$Town" "houses" "I" "UnlikeRoofs").before ([.ref u0] : List Value).toArray s = true := va_Nw.use rfl (hG.1 (.fieldLinkNest RX9 179 "UnlikeRoofs$Town" "houses" "I" "UnlikeRoofs") (List.mem_of_getElem? (i := 22) (by rfl)))
  have wn_1 : (Cond.fieldLinkNest RX9 143 "UnlikeRoofs$Town" "blowing" "I" "UnlikeRoofs").before ([.ref u0] : List Value).toArray s = true := va_Nw.use rfl (hG.1 (.fieldLinkNest RX9 143 "UnlikeRoofs$Town" "blowing" "I" "UnlikeRoofs") (List.mem_of_getElem? (i := 29) (by rfl)))
  have hin_X8 : ∀ w ∈ wsX80, w ∈ wsX9_worst := fun _ h => List.mem_cons_of_mem _ (List.mem_append_left _ (List.mem_append_right _ h))
  have hin_X9 : ∀ w ∈ wsX90, w ∈ wsX9_worst := fun _ h => List.mem_cons_of_mem _ (List.mem_append_left _ (List.mem_append_left _ (List.mem_append_right _ h)))
  have _h0 : True := trivial
  refine lv_bipush (v := (-9 : Int32)) hx hb dX9_worst_0 (by decide) ?_
  refine lv_istore_n (lv' := [(1, .int (-9 : Int32)), (0, .ref u0)]) hx hb dX9_worst_2 rfl hl (by decide) rfl (fun ls hl => ?_)
  refine lv_iconst (v := (0 : Int32)) hx hb dX9_worst_3 (by decide) ?_
  refine lv_istore_n (lv' := [(2, .int (0 : Int32)), (1, .int (-9 : Int32)), (0, .ref u0)]) hx hb dX9_worst_4 rfl hl (by decide) rfl (fun ls hl => ?_)
  refine lv_iconst (v := (0 : Int32)) hx hb dX9_worst_5 (by decide) ?_
  refine lv_istore_n (lv' := [(3, .int (0 : Int32)), (2, .int (0 : Int32)), (1, .int (-9 : Int32)), (0, .ref u0)]) hx hb dX9_worst_6 rfl hl (by decide) rfl (fun ls hl => ?_)
  have L_7 : ∀ (fuel : Nat) (si_ : Nat → Int32) (btv : Int32) (lcv : Int32) (wo : Int32) (mo : Nat) (i : Nat), (i ≤ n) → (mo ≤ 792) → (wo = (-9) → mo = 0) → ((wo, mo) = wstR (lostN xs ys rf pr bu n k (nI wn)) (burB bu k rf) i) → (n - i) < fuel → ∀ (H : Heap) (locs : List Loc), va_P D vwCl [(u0, .inr (8, [.ref t0, .ref k0, .ref e0, .ref f0, .ref s0, .ref r0, .ref g0, .ref o0, .ref do0, .int dr])), (o0, .inr (7, [.ref o1, .ref o2, .ref o3, .ref o4, .ref o5, .ref o6, .int (nI n), .int (nI k), .int (nI wn), .int (bb wt)])), (o1, .inl (cI, 8, .inl xs)), (o2, .inl (cI, 8, .inl ys)), (o3, .inl (cI, 8, .inl rf)), (o4, .inl (cI, 8, .inl bo)), (o5, .inl (cI, 4, .inl pr)), (o6, .inl (cI, 4, .inl bu)), (f0, .inr (0, [.ref f1, .int btv, .int lcv])), (f1, .inl (cI, 8, .inl si_))] H → va_D A [(u0, .inr (8, [.ref t0, .ref k0, .ref e0, .ref f0, .ref s0, .ref r0, .ref g0, .ref o0, .ref do0, .int dr])), (o0, .inr (7, [.ref o1, .ref o2, .ref o3, .ref o4, .ref o5, .ref o6, .int (nI n), .int (nI k), .int (nI wn), .int (bb wt)])), (o1, .inl (cI, 8, .inl xs)), (o2, .inl (cI, 8, .inl ys)), (o3, .inl (cI, 8, .inl rf)), (o4, .inl (cI, 8, .inl bo)), (o5, .inl (cI, 4, .inl pr)), (o6, .inl (cI, 4, .inl bu)), (f0, .inr (0, [.ref f1, .int btv, .int lcv])), (f1, .inl (cI, 8, .inl si_))] → va_S A s.heap H locs → ∀ ls : Array Slot, lv_has ls 5 [(3, .int (nI i)), (2, .int (nI mo)), (1, .int wo), (0, .ref u0)] → W p l e (xRm 5 119) s m ([.ref u0] : List Value).toArray below meth c H locs 0 0 Q (F0 m 7 ls []) := by
    intro fuel
    induction fuel with
    | zero =>
      intro si_ btv lcv wo mo i hi hmo h0 hwm hm
      exact absurd hm (Nat.not_lt_zero _)
    | succ fuel ih_7 =>
      intro si_ btv lcv wo mo i hi hmo h0 hwm hm_7 H locs hP hD hS ls hl
      refine lv_iload_n hx hb dX9_worst_7 rfl (lv_at hl 0 rfl) ?_
      refine lv_aload_n hx hb dX9_worst_8 rfl (lv_at hl 3 rfl) ?_
      refine va_get (D := D) (ci := 8) (v := .ref o0) (C := RX9) (T := TX9) (N := 10) hx hb hts hin_X9 hown hK hP 0 rfl rfl 7 (by decide) w_0 (fun _ h9 => h9) rfl dX9_worst_9 ?_
      refine va_getN (D := D) (ci := 7) (v := .int (nI n)) (C := RX8) (T := TX8) (N := 10) hx hb hts hin_X8 hown hK hP 1 rfl rfl 6 (by decide) wn_0 (fun _ h9 => h9) rfl dX9_worst_12 ?_
      refine lv_icmp_ge (tgt := 49) hx hb dX9_worst_15 (by decide) (fun c_15 => ?_) (fun c_15 => ?_)
      ·
        have n_15 : n ≤ i := (nI_leI (show n < 2147483648 by omega) (show i < 2147483648 by omega)).1 c_15
        refine lv_iload_n hx hb dX9_worst_49 rfl (lv_at hl 2 rfl) ?_
        exact hret _ (si_, btv, lcv) _ _ _ _ (rfl) (⟨by rw [show i = n by omega] at hwm; rw [← hwm], trivial⟩) hP hD hS dX9_worst_50
      ·
        have n_15 : i < n := Nat.lt_of_not_le (fun q => c_15 ((nI_leI (show n < 2147483648 by omega) (show i < 2147483648 by omega)).2 q))
        refine lv_aload_n hx hb dX9_worst_18 rfl (lv_at hl 3 rfl) ?_
        refine lv_iload_n hx hb dX9_worst_19 rfl (lv_at hl 0 rfl) ?_
        refine lv_aload_n hx hb dX9_worst_20 rfl (lv_at hl 3 rfl) ?_
        refine va_get (D := D) (ci := 8) (v := .ref o0) (C := RX9) (T := TX9) (N := 10) hx hb hts hin_X9 hown hK hP 0 rfl rfl 7 (by decide) w_0 (fun _ h9 => h9) rfl dX9_worst_21 ?_
        refine va_getN (D := D) (ci := 7) (v := .int (nI wn)) (C := RX8) (T := TX8) (N := 10) hx hb hts hin_X8 hown hK hP 1 rfl rfl 8 (by decide) wn_1 (fun _ h9 => h9) rfl dX9_worst_24 ?_
        refine xcV_i (As := [.int (nI i), .int (nI wn)]) (rest := []) (wc := [(u0, .inr (8, [.ref t0, .ref k0, .ref e0, .ref f0, .ref s0, .ref r0, .ref g0, .ref o0, .ref do0, .int dr])), (o0, .inr (7, [.ref o1, .ref o2, .ref o3, .ref o4, .ref o5, .ref o6, .int (nI n), .int (nI k), .int (nI wn), .int (bb wt)])), (o1, .inl (cI, 8, .inl xs)), (o2, .inl (cI, 8, .inl ys)), (o3, .inl (cI, 8, .inl rf)), (o4, .inl (cI, 8, .inl bo)), (o5, .inl (cI, 4, .inl pr)), (o6, .inl (cI, 4, .inl bu)), (f0, .inr (0, [.ref f1, .int btv, .int lcv])), (f1, .inl (cI, 8, .inl si_))]) (wr := []) (w3 := fun (u : (Nat → Int32) × Int32 × Int32) => [(u0, .inr (8, [.ref t0, .ref k0, .ref e0, .ref f0, .ref s0, .ref r0, .ref g0, .ref o0, .ref do0, .int dr])), (o0, .inr (7, [.ref o1, .ref o2, .ref o3, .ref o4, .ref o5, .ref o6, .int (nI n), .int (nI k), .int (nI wn), .int (bb wt)])), (o1, .inl (cI, 8, .inl xs)), (o2, .inl (cI, 8, .inl ys)), (o3, .inl (cI, 8, .inl rf)), (o4, .inl (cI, 8, .inl bo)), (o5, .inl (cI, 4, .inl pr)), (o6, .inl (cI, 4, .inl bu)), (f0, .inr (0, [.ref f1, .int (u.2.1), .int (u.2.2)])), (f1, .inl (cI, 8, .inl (u.1)))]) ⟨hx, hb, hml, hown, hts⟩ (c_X9_pricesLost l D cI cZ cO H.size gR gD gK gV u0 t0 k0 e0 f0 s0 r0 g0 o0 do0 dr o1 o2 o3 o4 o5 o6 xs ys rf bo pr bu n k wn wt f1 btv lcv si_ i wn (by first | assumption | omega | rfl) (by first | assumption | omega | rfl) (by first | assumption | omega | rfl) (by first | assumption | omega | rfl) (by first | assumption | omega | rfl) (by first | assumption | omega | rfl)) (cwV 2 hts gX9_worst_X9_pricesLost rfl rfl rfl (by decide +kernel) ⟨Nat.le_of_ble_eq_true rfl, Nat.le_of_ble_eq_true rfl⟩) (xGdc gR gD gK gV) (xGdc gR gD gK gV) (fun _ _ _ h => h) hG hP hD hK hS hA [0, 1, 2, 3, 4, 5, 6, 7, 8, 9] [] [0, 1, 2, 3, 4, 5, 6, 7, 8, 9] rfl rfl rfl rfl rfl 0 rfl rfl rfl (fun _ => rfl) rfl rfl hl.1 (Nat.le_of_ble_eq_true rfl) dX9_worst_27 ⟨Nat.zero_le _, Nat.zero_le _⟩ (fun r u H locs hw hP hD hS => ?_)
        obtain ⟨z_1, z_2, z_3⟩ := u
        obtain ⟨rfl, hw⟩ := hw
        have hw_27 : True := hw
        have hP : va_P D vwCl [(u0, .inr (8, [.ref t0, .ref k0, .ref e0, .ref f0, .ref s0, .ref r0, .ref g0, .ref o0, .ref do0, .int dr])), (o0, .inr (7, [.ref o1, .ref o2, .ref o3, .ref o4, .ref o5, .ref o6, .int (nI n), .int (nI k), .int (nI wn), .int (bb wt)])), (o1, .inl (cI, 8, .inl xs)), (o2, .inl (cI, 8, .inl ys)), (o3, .inl (cI, 8, .inl rf)), (o4, .inl (cI, 8, .inl bo)), (o5, .inl (cI, 4, .inl pr)), (o6, .inl (cI, 4, .inl bu)), (f0, .inr (0, [.ref f1, .int z_2, .int z_3])), (f1, .inl (cI, 8, .inl z_1))] H := hP
        have hD : va_D A [(u0, .inr (8, [.ref t0, .ref k0, .ref e0, .ref f0, .ref s0, .ref r0, .ref g0, .ref o0, .ref do0, .int dr])), (o0, .inr (7, [.ref o1, .ref o2, .ref o3, .ref o4, .ref o5, .ref o6, .int (nI n), .int (nI k), .int (nI wn), .int (bb wt)])), (o1, .inl (cI, 8, .inl xs)), (o2, .inl (cI, 8, .inl ys)), (o3, .inl (cI, 8, .inl rf)), (o4, .inl (cI, 8, .inl bo)), (o5, .inl (cI, 4, .inl pr)), (o6, .inl (cI, 4, .inl bu)), (f0, .inr (0, [.ref f1, .int z_2, .int z_3])), (f1, .inl (cI, 8, .inl z_1))] := hD
        have hll : lostN xs ys rf pr bu n k (nI wn) i ≤ 792 := lostN_le hn hk hpo
        refine lv_istore (lv' := [(4, .int (nI (lostN xs ys rf pr bu n k (nI wn) i))), (3, .int (nI i)), (2, .int (nI mo)), (1, .int wo), (0, .ref u0)]) hx hb dX9_worst_30 hl (by decide) rfl (fun ls hl => ?_)
        refine lv_iload hx hb dX9_worst_32 (lv_at hl 0 rfl) ?_
        refine lv_iload_n hx hb dX9_worst_34 rfl (lv_at hl 2 rfl) ?_
        refine lv_icmp_le (tgt := 43) hx hb dX9_worst_35 (by decide) (fun c_35 => ?_) (fun c_35 => ?_)
        ·
          have n_35 : (lostN xs ys rf pr bu n k (nI wn) i) ≤ mo := (nI_leI (show (lostN xs ys rf pr bu n k (nI wn) i) < 2147483648 by omega) (show mo < 2147483648 by omega)).1 c_35
          refine lv_iinc (v := nI (i + 1)) (lv' := [(3, .int (nI (i + 1))), (4, .int (nI (lostN xs ys rf pr bu n k (nI wn) i))), (2, .int (nI mo)), (1, .int wo), (0, .ref u0)]) hx hb dX9_worst_43 hl (k := 1) rfl (by first | rfl | exact nI_add _ 1 | (simp only [] ; exact nI_add _ 1)) (by decide) rfl (fun ls hl => ?_)
          refine lv_goto (tgt := 7) hx hb dX9_worst_46 (by decide) ?_
          exact ih_7 z_1 z_2 z_3 wo mo (i + 1) (by omega) (hmo) (h0) (wst_c2 hwm (fun q => lostN_pos (by omega) hk hpo q) h0 n_35) (by omega) _ _ hP hD hS _ (lv_sub hl [0, 2, 3, 4] rfl)
        ·
          have n_35 : mo < (lostN xs ys rf pr bu n k (nI wn) i) := Nat.lt_of_not_le (fun q => c_35 ((nI_leI (show (lostN xs ys rf pr bu n k (nI wn) i) < 2147483648 by omega) (show mo < 2147483648 by omega)).2 q))
          refine lv_iload hx hb dX9_worst_38 (lv_at hl 0 rfl) ?_
          refine lv_istore_n (lv' := [(2, .int (nI (lostN xs ys rf pr bu n k (nI wn) i))), (4, .int (nI (lostN xs ys rf pr bu n k (nI wn) i))), (3, .int (nI i)), (1, .int wo), (0, .ref u0)]) hx hb dX9_worst_40 rfl hl (by decide) rfl (fun ls hl => ?_)
          refine lv_iload_n hx hb dX9_worst_41 rfl (lv_at hl 2 rfl) ?_
          refine lv_istore_n (lv' := [(1, .int (nI i)), (2, .int (nI (lostN xs ys rf pr bu n k (nI wn) i))), (4, .int (nI (lostN xs ys rf pr bu n k (nI wn) i))), (3, .int (nI i)), (0, .ref u0)]) hx hb dX9_worst_42 rfl hl (by decide) rfl (fun ls hl => ?_)
          refine lv_iinc (v := nI (i + 1)) (lv' := [(3, .int (nI (i + 1))), (1, .int (nI i)), (2, .int (nI (lostN xs ys rf pr bu n k (nI wn) i))), (4, .int (nI (lostN xs ys rf pr bu n k (nI wn) i))), (0, .ref u0)]) hx hb dX9_worst_43 hl (k := 3) rfl (by first | rfl | exact nI_add _ 1 | (simp only [] ; exact nI_add _ 1)) (by decide) rfl (fun ls hl => ?_)
          refine lv_goto (tgt := 7) hx hb dX9_worst_46 (by decide) ?_
          exact ih_7 z_1 z_2 z_3 (nI i) (lostN xs ys rf pr bu n k (nI wn) i) (i + 1) (by omega) (hll) (fun q => absurd q (nI_ne9 (by omega))) (wst_c1 hwm (fun q => lostN_0 q) n_35) (by omega) _ _ hP hD hS _ (lv_sub hl [0, 2, 1, 4] rfl)
  exact L_7 (Nat.succ (n - 0)) si bt lc (-9) 0 0 (Nat.zero_le _) (by decide) (fun _ => rfl) (rfl) (Nat.lt_succ_self _) _ _ hP hD hS _ (lv_sub hl [0, 1, 2, 3] rfl)

set_option maxHeartbeats 4000000 in
set_option maxRecDepth 100000 in
theorem c_X9_type (l : Launch) (D : va_G) (cI cZ cO : ClassId) (sz : Nat) (gR : Nat) (gD : Nat) (gK : Nat → Nat) (gV : Nat → Nat) (u0 : Nat) (t0 : Nat) (k0 : Nat) (e0 : Nat) (f0 : Nat) (s0 : Nat) (r0 : Nat) (g0 : Nat) (o0 : Nat) (do0 : Nat) (dr : Int32) (t1 : Nat) (ty : Nat) (bt : Nat → Nat) (v : Int64) (m_ : Int32) (hty : ty ≤ 300) : xMi l yX9_type wsX9_type (1) (24) D (TY cI cZ cO) (xGc gR gD gK gV) [.ref u0, .long v, .int m_] [(u0, .inr (8, [.ref t0, .ref k0, .ref e0, .ref f0, .ref s0, .ref r0, .ref g0, .ref o0, .ref do0, .int dr])), (t0, .inr (5, [.ref t1, .int (nI ty)])), (t1, .inl (cI, 300, .inl (rI bt)))] sz (fun (rv_ : Int32) (u : Nat × (Nat → Nat)) => rv_ = (aType ty m_) ∧ ((u.1) = tyF ty m_ ∧ (u.2) = btF bt v ty m_)) (fun (u : Nat × (Nat → Nat)) => [(u0, .inr (8, [.ref t0, .ref k0, .ref e0, .ref f0, .ref s0, .ref r0, .ref g0, .ref o0, .ref do0, .int dr])), (t0, .inr (5, [.ref t1, .int (nI (u.1))])), (t1, .inl (cI, 300, .inl (rI (u.2))))]) := by
  refine xMi.of (cc := cX9_type) (maxL := 4) (by decide +kernel) rfl (Nat.le_of_ble_eq_true rfl) ?_
  intro p e s m below meth c A Q H hx hb hml hown hts hA hP hD hK hS hG hret ls hl
  have hown : s.vm.findClass RX9 = some m.cls := hown
  have hP : va_P D vwCl [(u0, .inr (8, [.ref t0, .ref k0, .ref e0, .ref f0, .ref s0, .ref r0, .ref g0, .ref o0, .ref do0, .int dr])), (t0, .inr (5, [.ref t1, .int (nI ty)])), (t1, .inl (cI, 300, .inl (rI bt)))] H := hP
  have hD : va_D A [(u0, .inr (8, [.ref t0, .ref k0, .ref e0, .ref f0, .ref s0, .ref r0, .ref g0, .ref o0, .ref do0, .int dr])), (t0, .inr (5, [.ref t1, .int (nI ty)])), (t1, .inl (cI, 300, .inl (rI bt)))] := hD
  have hl : lv_has ls 4 [(0, .ref u0), (1, .long v), (3, .int m_)] := hl
  have w_0 := hts (.fieldLink RX9 12 "UnlikeRoofs" "text" "LUnlikeRoofs$Text;") (List.mem_of_getElem? (i := 1) (by rfl))
  have wn_0 : (Cond.fieldLinkNest RX9 76 "UnlikeRoofs$Text" "length" "I" "UnlikeRoofs").before ([.ref u0, .long v, .int m_] : List Value).toArray s = true := va_Nw.use rfl (hG.1 (.fieldLinkNest RX9 76 "UnlikeRoofs$Text" "length" "I" "UnlikeRoofs") (List.mem_of_getElem? (i := 0) (by rfl)))
  have hin_X6 : ∀ w ∈ wsX60, w ∈ wsX9_type := fun _ h => List.mem_cons_of_mem _ (List.mem_append_right _ h)
  have hin_X9 : ∀ w ∈ wsX90, w ∈ wsX9_type := fun _ h => List.mem_cons_of_mem _ (List.mem_append_left _ (List.mem_append_right _ h))
  have _h0 : True := trivial
  refine lv_iload_n hx hb dX9_type_0 rfl (lv_at hl 2 rfl) ?_
  refine lv_iconst (v := (1 : Int32)) hx hb dX9_type_1 (by decide) ?_
  refine lv_icmp_lt (tgt := 11) hx hb dX9_type_2 (by decide) (fun c_2 => ?_) (fun c_2 => ?_)
  ·
    refine lv_iconst (v := (-1 : Int32)) hx hb dX9_type_11 (by decide) ?_
    exact hret _ (ty, bt) _ _ _ _ (rfl) (⟨by rw [aType, if_neg (fun q => absurd (of_decide_eq_true q).1 (Int32.not_le.2 c_2))], by rw [tyF, if_neg (fun q => absurd (of_decide_eq_true q).1 (Int32.not_le.2 c_2))], by rw [btF, if_neg (fun q => absurd (of_decide_eq_true q).1 (Int32.not_le.2 c_2))]⟩) hP hD hS dX9_type_12
  ·
    refine lv_iload_n hx hb dX9_type_5 rfl (lv_at hl 2 rfl) ?_
    refine lv_bipush (v := (8 : Int32)) hx hb dX9_type_6 (by decide) ?_
    refine lv_icmp_le (tgt := 13) hx hb dX9_type_8 (by decide) (fun c_8 => ?_) (fun c_8 => ?_)
    ·
      have hin : inr m_ 1 8 = true := decide_eq_true ⟨Int32.not_lt.1 c_2, c_8⟩
      obtain ⟨nn, hn1, hn8, rfl⟩ := inr_18 hin
      refine lv_aload_n hx hb dX9_type_13 rfl (lv_at hl 0 rfl) ?_
      refine va_get (D := D) (ci := 8) (v := .ref t0) (C := RX9) (T := TX9) (N := 10) hx hb hts hin_X9 hown hK hP 0 rfl rfl 0 (by decide) w_0 (fun _ h9 => h9) rfl dX9_type_14 ?_
      refine lv_lload_n hx hb dX9_type_17 rfl (lv_at hl 1 rfl) ?_
      refine lv_iload_n hx hb dX9_type_18 rfl (lv_at hl 2 rfl) ?_
      refine xcV_i (As := [.long v, .int (nI nn)]) (rest := []) (wc := [(t0, .inr (5, [.ref t1, .int (nI ty)])), (t1, .inl (cI, 300, .inl (rI bt)))]) (wr := [(u0, .inr (8, [.ref t0, .ref k0, .ref e0, .ref f0, .ref s0, .ref r0, .ref g0, .ref o0, .ref do0, .int dr]))]) (w3 := fun (u : Nat × (Nat → Nat)) => [(u0, .inr (8, [.ref t0, .ref k0, .ref e0, .ref f0, .ref s0, .ref r0, .ref g0, .ref o0, .ref do0, .int dr])), (t0, .inr (5, [.ref t1, .int (nI (u.1))])), (t1, .inl (cI, 300, .inl (rI (u.2))))]) ⟨hx, hb, hml, hown, hts⟩ (c_X6_append l D cI cZ cO H.size t0 t1 ty bt v nn (by first | assumption | omega | rfl) (by first | assumption | omega | rfl) (by first | assumption | omega | rfl)) (cwV 2 hts gX9_type_X6_append rfl rfl rfl (by decide +kernel) ⟨Nat.le_of_ble_eq_true rfl, Nat.le_of_ble_eq_true rfl⟩) (xGdc gR gD gK gV) xGd0 (fun _ _ _ _ => trivial) hG hP hD hK hS hA [1, 2] [0] [0, 1, 2] rfl rfl rfl rfl rfl 1 rfl rfl rfl (fun _ => rfl) rfl rfl hl.1 (Nat.le_of_ble_eq_true rfl) dX9_type_19 ⟨Nat.zero_le _, Nat.zero_le _⟩ (fun r u H locs hw hP hD hS => ?_)
      obtain ⟨z_1, z_2⟩ := u
      obtain ⟨rfl, hw⟩ := hw
      have hw_19 : z_1 = (if ty + nn ≤ 300 then ty + nn else ty) ∧ z_2 = (if ty + nn ≤ 300 then apB bt v ty nn nn else bt) := hw
      have hP : va_P D vwCl [(u0, .inr (8, [.ref t0, .ref k0, .ref e0, .ref f0, .ref s0, .ref r0, .ref g0, .ref o0, .ref do0, .int dr])), (t0, .inr (5, [.ref t1, .int (nI z_1)])), (t1, .inl (cI, 300, .inl (rI z_2)))] H := hP
      have hD : va_D A [(u0, .inr (8, [.ref t0, .ref k0, .ref e0, .ref f0, .ref s0, .ref r0, .ref g0, .ref o0, .ref do0, .int dr])), (t0, .inr (5, [.ref t1, .int (nI z_1)])), (t1, .inl (cI, 300, .inl (rI z_2)))] := hD
      refine lv_if_eq (tgt := 35) hx hb dX9_type_22 (by decide) (fun c_22 => ?_) (fun c_22 => ?_)
      ·
        have b_22 : (decide (ty + nn ≤ 300)) = false := bb_eq0 c_22
        have b_22 := of_decide_eq_false b_22
        refine lv_bipush (v := (-3 : Int32)) hx hb dX9_type_35 (by decide) ?_
        exact hret _ (z_1, z_2) _ _ _ _ (rfl) (⟨by rw [aType, if_pos hin, tnI (show nn < 2147483648 by omega)]; first | rw [if_pos b_22, hw_19.1, if_pos b_22] | rw [if_neg b_22], by rw [tyF, if_pos hin, tnI (show nn < 2147483648 by omega)]; exact hw_19.1, by rw [btF, if_pos hin, tnI (show nn < 2147483648 by omega)]; exact hw_19.2⟩) hP hD hS dX9_type_37
      ·
        have b_22 : (decide (ty + nn ≤ 300)) = true := bb_neq0 c_22
        have b_22 := of_decide_eq_true b_22
        refine lv_aload_n hx hb dX9_type_25 rfl (lv_at hl 0 rfl) ?_
        refine va_get (D := D) (ci := 8) (v := .ref t0) (C := RX9) (T := TX9) (N := 10) hx hb hts hin_X9 hown hK hP 0 rfl rfl 0 (by decide) w_0 (fun _ h9 => h9) rfl dX9_type_26 ?_
        refine va_getN (D := D) (ci := 5) (v := .int (nI z_1)) (C := RX6) (T := TX6) (N := 2) hx hb hts hin_X6 hown hK hP 1 rfl rfl 1 (by decide) wn_0 (fun _ h9 => h9) rfl dX9_type_29 ?_
        refine lv_goto (tgt := 37) hx hb dX9_type_32 (by decide) ?_
        exact hret _ (z_1, z_2) _ _ _ _ (rfl) (⟨by rw [aType, if_pos hin, tnI (show nn < 2147483648 by omega)]; first | rw [if_pos b_22, hw_19.1, if_pos b_22] | rw [if_neg b_22], by rw [tyF, if_pos hin, tnI (show nn < 2147483648 by omega)]; exact hw_19.1, by rw [btF, if_pos hin, tnI (show nn < 2147483648 by omega)]; exact hw_19.2⟩) hP hD hS dX9_type_37
    ·
      refine lv_iconst (v := (-1 : Int32)) hx hb dX9_type_11 (by decide) ?_
      exact hret _ (ty, bt) _ _ _ _ (rfl) (⟨by rw [aType, if_neg (fun q => absurd (of_decide_eq_true q).2 (Int32.not_le.2 (Int32.not_le.1 c_8)))], by rw [tyF, if_neg (fun q => absurd (of_decide_eq_true q).2 (Int32.not_le.2 (Int32.not_le.1 c_8)))], by rw [btF, if_neg (fun q => absurd (of_decide_eq_true q).2 (Int32.not_le.2 (Int32.not_le.1 c_8)))]⟩) hP hD hS dX9_type_12

set_option maxHeartbeats 4000000 in
set_option maxRecDepth 100000 in
theorem c_X9_order (l : Launch) (D : va_G) (cI cZ cO : ClassId) (sz : Nat) (gR : Nat) (gD : Nat) (gK : Nat → Nat) (gV : Nat → Nat) (u0 : Nat) (t0 : Nat) (k0 : Nat) (e0 : Nat) (f0 : Nat) (s0 : Nat) (r0 : Nat) (g0 : Nat) (o0 : Nat) (do0 : Nat) (dr : Int32) (o1 : Nat) (o2 : Nat) (o3 : Nat) (o4 : Nat) (o5 : Nat) (o6 : Nat) (xs : Nat → Int32) (ys : Nat → Int32) (rf : Nat → Int32) (bo : Nat → Int32) (pr : Nat → Int32) (bu : Nat → Int32) (n : Nat) (k : Nat) (wn : Nat) (wt : Bool) (old : Int32) (sp : Int32) (w : Int32) (hn : n ≤ 8) (hc : cOK n xs ys) : xMi l yX9_order wsX9_order (4) (92) D (TY cI cZ cO) (xGc gR gD gK gV) [.ref u0, .int old, .int sp, .int w] [(u0, .inr (8, [.ref t0, .ref k0, .ref e0, .ref f0, .ref s0, .ref r0, .ref g0, .ref o0, .ref do0, .int dr])), (o0, .inr (7, [.ref o1, .ref o2, .ref o3, .ref o4, .ref o5, .ref o6, .int (nI n), .int (nI k), .int (nI wn), .int (bb wt)])), (o1, .inl (cI, 8, .inl xs)), (o2, .inl (cI, 8, .inl ys)), (o3, .inl (cI, 8, .inl rf)), (o4, .inl (cI, 8, .inl bo)), (o5, .inl (cI, 4, .inl pr)), (o6, .inl (cI, 4, .inl bu))] sz (fun (rv_ : Int32) (u : Unit) => rv_ = (aOrder n xs ys rf old sp w) ∧ (True)) (fun (u : Unit) => [(u0, .inr (8, [.ref t0, .ref k0, .ref e0, .ref f0, .ref s0, .ref r0, .ref g0, .ref o0, .ref do0, .int dr])), (o0, .inr (7, [.ref o1, .ref o2, .ref o3, .ref o4, .ref o5, .ref o6, .int (nI n), .int (nI k), .int (nI wn), .int (bb wt)])), (o1, .inl (cI, 8, .inl xs)), (o2, .inl (cI, 8, .inl ys)), (o3, .inl (cI, 8, .inl rf)), (o4, .inl (cI, 8, .inl bo)), (o5, .inl (cI, 4, .inl pr)), (o6, .inl (cI, 4, .inl bu))]) := by
  refine xMi.of (cc := cX9_order) (maxL := 6) (by decide +kernel) rfl (Nat.le_of_ble_eq_true rfl) ?_
  intro p e s m below meth c A Q H hx hb hml hown hts hA hP hD hK hS hG hret ls hl
  have hown : s.vm.findClass RX9 = some m.cls := hown
  have hP : va_P D vwCl [(u0, .inr (8, [.ref t0, .ref k0, .ref e0, .ref f0, .ref s0, .ref r0, .ref g0, .ref o0, .ref do0, .int dr])), (o0, .inr (7, [.ref o1, .ref o2, .ref o3, .ref o4, .ref o5, .ref o6, .int (nI n), .int (nI k), .int (nI wn), .int (bb wt)])), (o1, .inl (cI, 8, .inl xs)), (o2, .inl (cI, 8, .inl ys)), (o3, .inl (cI, 8, .inl rf)), (o4, .inl (cI, 8, .inl bo)), (o5, .inl (cI, 4, .inl pr)), (o6, .inl (cI, 4, .inl bu))] H := hP
  have hD : va_D A [(u0, .inr (8, [.ref t0, .ref k0, .ref e0, .ref f0, .ref s0, .ref r0, .ref g0, .ref o0, .ref do0, .int dr])), (o0, .inr (7, [.ref o1, .ref o2, .ref o3, .ref o4, .ref o5, .ref o6, .int (nI n), .int (nI k), .int (nI wn), .int (bb wt)])), (o1, .inl (cI, 8, .inl xs)), (o2, .inl (cI, 8, .inl ys)), (o3, .inl (cI, 8, .inl rf)), (o4, .inl (cI, 8, .inl bo)), (o5, .inl (cI, 4, .inl pr)), (o6, .inl (cI, 4, .inl bu))] := hD
  have hl : lv_has ls 6 [(0, .ref u0), (1, .int old), (2, .int sp), (3, .int w)] := hl
  have w_0 := hts (.fieldLink RX9 61 "UnlikeRoofs" "told" "LUnlikeRoofs$Town;") (List.mem_of_getElem? (i := 1) (by rfl))
  have wn_0 : (Cond.fieldLinkNest RX9 179 "UnlikeRoofs$Town" "houses" "I" "UnlikeRoofs").before ([.ref u0, .int old, .int sp, .int w] : List Value).toArray s = true := va_Nw.use rfl (hG.1 (.fieldLinkNest RX9 179 "UnlikeRoofs$Town" "houses" "I" "UnlikeRoofs") (List.mem_of_getElem? (i := 22) (by rfl)))
  have wn_1 : (Cond.fieldLinkNest RX9 112 "UnlikeRoofs$Town" "roofs" "[I" "UnlikeRoofs").before ([.ref u0, .int old, .int sp, .int w] : List Value).toArray s = true := va_Nw.use rfl (hG.1 (.fieldLinkNest RX9 112 "UnlikeRoofs$Town" "roofs" "[I" "UnlikeRoofs") (List.mem_of_getElem? (i := 15) (by rfl)))
  have hin_X8 : ∀ w ∈ wsX80, w ∈ wsX9_order := fun _ h => List.mem_cons_of_mem _ (List.mem_append_right _ h)
  have hin_X9 : ∀ w ∈ wsX90, w ∈ wsX9_order := fun _ h => List.mem_cons_of_mem _ (List.mem_append_left _ (List.mem_append_right _ h))
  have _h0 : True := trivial
  refine lv_iload_n hx hb dX9_order_0 rfl (lv_at hl 2 rfl) ?_
  refine xcS_i (As := [.int sp]) (rest := []) (wc := []) (wr := [(u0, .inr (8, [.ref t0, .ref k0, .ref e0, .ref f0, .ref s0, .ref r0, .ref g0, .ref o0, .ref do0, .int dr])), (o0, .inr (7, [.ref o1, .ref o2, .ref o3, .ref o4, .ref o5, .ref o6, .int (nI n), .int (nI k), .int (nI wn), .int (bb wt)])), (o1, .inl (cI, 8, .inl xs)), (o2, .inl (cI, 8, .inl ys)), (o3, .inl (cI, 8, .inl rf)), (o4, .inl (cI, 8, .inl bo)), (o5, .inl (cI, 4, .inl pr)), (o6, .inl (cI, 4, .inl bu))]) (w3 := fun (u : Unit) => [(u0, .inr (8, [.ref t0, .ref k0, .ref e0, .ref f0, .ref s0, .ref r0, .ref g0, .ref o0, .ref do0, .int dr])), (o0, .inr (7, [.ref o1, .ref o2, .ref o3, .ref o4, .ref o5, .ref o6, .int (nI n), .int (nI k), .int (nI wn), .int (bb wt)])), (o1, .inl (cI, 8, .inl xs)), (o2, .inl (cI, 8, .inl ys)), (o3, .inl (cI, 8, .inl rf)), (o4, .inl (cI, 8, .inl bo)), (o5, .inl (cI, 4, .inl pr)), (o6, .inl (cI, 4, .inl bu))]) ⟨hx, hb, hml, hown, hts⟩ (c_X9_isFlag l D cI cZ cO H.size gR gD gK gV sp ) (va_cwS 1 hts gX9_order_X9_isFlag rfl rfl rfl (by decide +kernel) ⟨Nat.le_of_ble_eq_true rfl, Nat.le_of_ble_eq_true rfl⟩) (xGdc gR gD gK gV) (xGdc gR gD gK gV) (fun _ _ _ h => h) hG hP hD hK hS hA [] [0, 1, 2, 3, 4, 5, 6, 7] [0, 1, 2, 3, 4, 5, 6, 7] rfl rfl rfl rfl rfl rfl (fun _ => rfl) rfl rfl hl.1 (Nat.le_of_ble_eq_true rfl) dX9_order_1 ⟨Nat.zero_le _, Nat.zero_le _⟩ (fun r u H locs hw hP hD hS => ?_)
  obtain ⟨rfl, hw⟩ := hw
  have hw_1 : True := hw
  have hP : va_P D vwCl [(u0, .inr (8, [.ref t0, .ref k0, .ref e0, .ref f0, .ref s0, .ref r0, .ref g0, .ref o0, .ref do0, .int dr])), (o0, .inr (7, [.ref o1, .ref o2, .ref o3, .ref o4, .ref o5, .ref o6, .int (nI n), .int (nI k), .int (nI wn), .int (bb wt)])), (o1, .inl (cI, 8, .inl xs)), (o2, .inl (cI, 8, .inl ys)), (o3, .inl (cI, 8, .inl rf)), (o4, .inl (cI, 8, .inl bo)), (o5, .inl (cI, 4, .inl pr)), (o6, .inl (cI, 4, .inl bu))] H := hP
  have hD : va_D A [(u0, .inr (8, [.ref t0, .ref k0, .ref e0, .ref f0, .ref s0, .ref r0, .ref g0, .ref o0, .ref do0, .int dr])), (o0, .inr (7, [.ref o1, .ref o2, .ref o3, .ref o4, .ref o5, .ref o6, .int (nI n), .int (nI k), .int (nI wn), .int (bb wt)])), (o1, .inl (cI, 8, .inl xs)), (o2, .inl (cI, 8, .inl ys)), (o3, .inl (cI, 8, .inl rf)), (o4, .inl (cI, 8, .inl bo)), (o5, .inl (cI, 4, .inl pr)), (o6, .inl (cI, 4, .inl bu))] := hD
  refine lv_if_eq (tgt := 11) hx hb dX9_order_4 (by decide) (fun c_4 => ?_) (fun c_4 => ?_)
  ·
    have b_4 : (inr sp 0 1) = false := bb_eq0 c_4
    refine lv_iconst (v := (-1 : Int32)) hx hb dX9_order_11 (by decide) ?_
    exact hret _ () _ _ _ _ (rfl) (⟨by rw [aOrder, if_neg (fun q => (bfne b_4) q.1)], trivial⟩) hP hD hS dX9_order_12
  ·
    have b_4 : (inr sp 0 1) = true := bb_neq0 c_4
    refine lv_iload_n hx hb dX9_order_7 rfl (lv_at hl 3 rfl) ?_
    refine lv_if_ge (tgt := 13) hx hb dX9_order_8 (by decide) (fun c_8 => ?_) (fun c_8 => ?_)
    ·
      refine lv_aload_n hx hb dX9_order_13 rfl (lv_at hl 0 rfl) ?_
      refine va_get (D := D) (ci := 8) (v := .ref o0) (C := RX9) (T := TX9) (N := 10) hx hb hts hin_X9 hown hK hP 0 rfl rfl 7 (by decide) w_0 (fun _ h9 => h9) rfl dX9_order_14 ?_
      refine lv_iload_n hx hb dX9_order_17 rfl (lv_at hl 2 rfl) ?_
      refine xcV_i (As := [.int sp]) (rest := []) (wc := [(o0, .inr (7, [.ref o1, .ref o2, .ref o3, .ref o4, .ref o5, .ref o6, .int (nI n), .int (nI k), .int (nI wn), .int (bb wt)])), (o1, .inl (cI, 8, .inl xs)), (o2, .inl (cI, 8, .inl ys)), (o3, .inl (cI, 8, .inl rf)), (o4, .inl (cI, 8, .inl bo)), (o5, .inl (cI, 4, .inl pr)), (o6, .inl (cI, 4, .inl bu))]) (wr := [(u0, .inr (8, [.ref t0, .ref k0, .ref e0, .ref f0, .ref s0, .ref r0, .ref g0, .ref o0, .ref do0, .int dr]))]) (w3 := fun (u : Unit) => [(u0, .inr (8, [.ref t0, .ref k0, .ref e0, .ref f0, .ref s0, .ref r0, .ref g0, .ref o0, .ref do0, .int dr])), (o0, .inr (7, [.ref o1, .ref o2, .ref o3, .ref o4, .ref o5, .ref o6, .int (nI n), .int (nI k), .int (nI wn), .int (bb wt)])), (o1, .inl (cI, 8, .inl xs)), (o2, .inl (cI, 8, .inl ys)), (o3, .inl (cI, 8, .inl rf)), (o4, .inl (cI, 8, .inl bo)), (o5, .inl (cI, 4, .inl pr)), (o6, .inl (cI, 4, .inl bu))]) ⟨hx, hb, hml, hown, hts⟩ (c_X8_unlawfulPairs l D cI cZ cO H.size o0 o1 o2 o3 o4 o5 o6 xs ys rf bo pr bu n k (nI wn) wt sp (by first | assumption | omega | rfl)) (cwV 1 hts gX9_order_X8_unlawfulPairs rfl rfl rfl (by decide +kernel) ⟨Nat.le_of_ble_eq_true rfl, Nat.le_of_ble_eq_true rfl⟩) (xGdc gR gD gK gV) xGd0 (fun _ _ _ _ => trivial) hG hP hD hK hS hA [1, 2, 3, 4, 5, 6, 7] [0] [0, 1, 2, 3, 4, 5, 6, 7] rfl rfl rfl rfl rfl 1 rfl rfl rfl (fun _ => rfl) rfl rfl hl.1 (Nat.le_of_ble_eq_true rfl) dX9_order_18 ⟨Nat.zero_le _, Nat.zero_le _⟩ (fun r u H locs hw hP hD hS => ?_)
      obtain ⟨rfl, hw⟩ := hw
      have hw_18 : True := hw
      have hP : va_P D vwCl [(u0, .inr (8, [.ref t0, .ref k0, .ref e0, .ref f0, .ref s0, .ref r0, .ref g0, .ref o0, .ref do0, .int dr])), (o0, .inr (7, [.ref o1, .ref o2, .ref o3, .ref o4, .ref o5, .ref o6, .int (nI n), .int (nI k), .int (nI wn), .int (bb wt)])), (o1, .inl (cI, 8, .inl xs)), (o2, .inl (cI, 8, .inl ys)), (o3, .inl (cI, 8, .inl rf)), (o4, .inl (cI, 8, .inl bo)), (o5, .inl (cI, 4, .inl pr)), (o6, .inl (cI, 4, .inl bu))] H := hP
      have hD : va_D A [(u0, .inr (8, [.ref t0, .ref k0, .ref e0, .ref f0, .ref s0, .ref r0, .ref g0, .ref o0, .ref do0, .int dr])), (o0, .inr (7, [.ref o1, .ref o2, .ref o3, .ref o4, .ref o5, .ref o6, .int (nI n), .int (nI k), .int (nI wn), .int (bb wt)])), (o1, .inl (cI, 8, .inl xs)), (o2, .inl (cI, 8, .inl ys)), (o3, .inl (cI, 8, .inl rf)), (o4, .inl (cI, 8, .inl bo)), (o5, .inl (cI, 4, .inl pr)), (o6, .inl (cI, 4, .inl bu))] := hD
      have hbe := unl_br (rf := rf) (sp := sp) hn hc
      have hbl := brN_le xs ys rf sp hn
      refine lv_if_le (tgt := 27) hx hb dX9_order_21 (by decide) (fun c_21 => ?_) (fun c_21 => ?_)
      ·
        have n_21 : (sumN (unl xs ys rf sp n) n / 2) ≤ 0 := (nI_leI (show (sumN (unl xs ys rf sp n) n / 2) < 2147483648 by omega) (show 0 < 2147483648 by omega)).1 c_21
        refine lv_iconst (v := (0 : Int32)) hx hb dX9_order_27 (by decide) ?_
        refine lv_istore (lv' := [(4, .int (0 : Int32)), (0, .ref u0), (1, .int old), (2, .int sp), (3, .int w)]) hx hb dX9_order_28 hl (by decide) rfl (fun ls hl => ?_)
        refine lv_iconst (v := (0 : Int32)) hx hb dX9_order_30 (by decide) ?_
        refine lv_istore (lv' := [(5, .int (0 : Int32)), (4, .int (0 : Int32)), (0, .ref u0), (1, .int old), (2, .int sp), (3, .int w)]) hx hb dX9_order_31 hl (by decide) rfl (fun ls hl => ?_)
        have L_33 : ∀ (fuel : Nat) (wk : Nat) (i : Nat), (i ≤ n) → (wk = cntB (comesB old rf) i) → (ordA (comesB old rf) w i = (-5)) → (n - i) < fuel → ∀ (H : Heap) (locs : List Loc), va_P D vwCl [(u0, .inr (8, [.ref t0, .ref k0, .ref e0, .ref f0, .ref s0, .ref r0, .ref g0, .ref o0, .ref do0, .int dr])), (o0, .inr (7, [.ref o1, .ref o2, .ref o3, .ref o4, .ref o5, .ref o6, .int (nI n), .int (nI k), .int (nI wn), .int (bb wt)])), (o1, .inl (cI, 8, .inl xs)), (o2, .inl (cI, 8, .inl ys)), (o3, .inl (cI, 8, .inl rf)), (o4, .inl (cI, 8, .inl bo)), (o5, .inl (cI, 4, .inl pr)), (o6, .inl (cI, 4, .inl bu))] H → va_D A [(u0, .inr (8, [.ref t0, .ref k0, .ref e0, .ref f0, .ref s0, .ref r0, .ref g0, .ref o0, .ref do0, .int dr])), (o0, .inr (7, [.ref o1, .ref o2, .ref o3, .ref o4, .ref o5, .ref o6, .int (nI n), .int (nI k), .int (nI wn), .int (bb wt)])), (o1, .inl (cI, 8, .inl xs)), (o2, .inl (cI, 8, .inl ys)), (o3, .inl (cI, 8, .inl rf)), (o4, .inl (cI, 8, .inl bo)), (o5, .inl (cI, 4, .inl pr)), (o6, .inl (cI, 4, .inl bu))] → va_S A s.heap H locs → ∀ ls : Array Slot, lv_has ls 6 [(5, .int (nI i)), (4, .int (nI wk)), (0, .ref u0), (1, .int old), (2, .int sp), (3, .int w)] → W p l e (xRm 4 92) s m ([.ref u0, .int old, .int sp, .int w] : List Value).toArray below meth c H locs 0 0 Q (F0 m 33 ls []) := by
          intro fuel
          induction fuel with
          | zero =>
            intro wk i hi hwk hor hm
            exact absurd hm (Nat.not_lt_zero _)
          | succ fuel ih_33 =>
            intro wk i hi hwk hor hm_33 H locs hP hD hS ls hl
            refine lv_iload hx hb dX9_order_33 (lv_at hl 0 rfl) ?_
            refine lv_aload_n hx hb dX9_order_35 rfl (lv_at hl 2 rfl) ?_
            refine va_get (D := D) (ci := 8) (v := .ref o0) (C := RX9) (T := TX9) (N := 10) hx hb hts hin_X9 hown hK hP 0 rfl rfl 7 (by decide) w_0 (fun _ h9 => h9) rfl dX9_order_36 ?_
            refine va_getN (D := D) (ci := 7) (v := .int (nI n)) (C := RX8) (T := TX8) (N := 10) hx hb hts hin_X8 hown hK hP 1 rfl rfl 6 (by decide) wn_0 (fun _ h9 => h9) rfl dX9_order_39 ?_
            refine lv_icmp_ge (tgt := 87) hx hb dX9_order_42 (by decide) (fun c_42 => ?_) (fun c_42 => ?_)
            ·
              have n_42 : n ≤ i := (nI_leI (show n < 2147483648 by omega) (show i < 2147483648 by omega)).1 c_42
              refine lv_bipush (v := (-5 : Int32)) hx hb dX9_order_87 (by decide) ?_
              exact hret _ () _ _ _ _ (rfl) (⟨by rw [aOrder, if_pos ⟨b_4, c_8⟩, if_pos (show brN xs ys rf sp n = 0 by omega), ← hor, show i = n by omega], trivial⟩) hP hD hS dX9_order_89
            ·
              have n_42 : i < n := Nat.lt_of_not_le (fun q => c_42 ((nI_leI (show n < 2147483648 by omega) (show i < 2147483648 by omega)).2 q))
              refine lv_aload_n hx hb dX9_order_45 rfl (lv_at hl 2 rfl) ?_
              refine va_get (D := D) (ci := 8) (v := .ref o0) (C := RX9) (T := TX9) (N := 10) hx hb hts hin_X9 hown hK hP 0 rfl rfl 7 (by decide) w_0 (fun _ h9 => h9) rfl dX9_order_46 ?_
              refine va_getN (D := D) (ci := 7) (v := .ref o3) (C := RX8) (T := TX8) (N := 10) hx hb hts hin_X8 hown hK hP 1 rfl rfl 2 (by decide) wn_1 (fun _ h9 => h9) rfl dX9_order_49 ?_
              refine lv_iload hx hb dX9_order_52 (lv_at hl 0 rfl) ?_
              refine x_iald hx hb hK hP 4 0 rfl rfl (j := i) (by omega) (by decide) dX9_order_54 ?_
              refine lv_bipush (v := (-9 : Int32)) hx hb dX9_order_55 (by decide) ?_
              refine lv_icmp_eq (tgt := 81) hx hb dX9_order_57 (by decide) (fun c_57 => ?_) (fun c_57 => ?_)
              ·
                refine lv_iinc (v := nI (i + 1)) (lv' := [(5, .int (nI (i + 1))), (4, .int (nI wk)), (0, .ref u0), (1, .int old), (2, .int sp), (3, .int w)]) hx hb dX9_order_81 hl (k := 0) rfl (by first | rfl | exact nI_add _ 1 | (simp only [] ; exact nI_add _ 1)) (by decide) rfl (fun ls hl => ?_)
                refine lv_goto (tgt := 33) hx hb dX9_order_84 (by decide) ?_
                exact ih_33 wk (i + 1) (by omega) (by rw [cntB, hwk, if_neg (fun q => (of_decide_eq_true q).2 c_57)]; rfl) (ordA_n hor (fun q => (of_decide_eq_true q.1).2 c_57)) (by omega) _ _ hP hD hS _ (lv_sub hl [0, 1, 2, 3, 4, 5] rfl)
              ·
                refine lv_iload_n hx hb dX9_order_60 rfl (lv_at hl 3 rfl) ?_
                refine lv_iload hx hb dX9_order_61 (lv_at hl 0 rfl) ?_
                refine lv_ishr hx hb dX9_order_63 ?_
                refine lv_iconst (v := (1 : Int32)) hx hb dX9_order_64 (by decide) ?_
                refine lv_iand hx hb dX9_order_65 ?_
                refine lv_if_ne (tgt := 81) hx hb dX9_order_66 (by decide) (fun c_66 => ?_) (fun c_66 => ?_)
                ·
                  refine lv_iinc (v := nI (i + 1)) (lv' := [(5, .int (nI (i + 1))), (4, .int (nI wk)), (0, .ref u0), (1, .int old), (2, .int sp), (3, .int w)]) hx hb dX9_order_81 hl (k := 0) rfl (by first | rfl | exact nI_add _ 1 | (simp only [] ; exact nI_add _ 1)) (by decide) rfl (fun ls hl => ?_)
                  refine lv_goto (tgt := 33) hx hb dX9_order_84 (by decide) ?_
                  exact ih_33 wk (i + 1) (by omega) (by rw [cntB, hwk, if_neg (fun q => c_66 (of_decide_eq_true q).1)]; rfl) (ordA_n hor (fun q => c_66 (of_decide_eq_true q.1).1)) (by omega) _ _ hP hD hS _ (lv_sub hl [0, 1, 2, 3, 4, 5] rfl)
                ·
                  have hcm : comesB old rf i = true := decide_eq_true ⟨c_66, c_57⟩
                  refine lv_iload hx hb dX9_order_69 (lv_at hl 1 rfl) ?_
                  refine lv_iload_n hx hb dX9_order_71 rfl (lv_at hl 5 rfl) ?_
                  refine lv_icmp_ne (tgt := 78) hx hb dX9_order_72 (by decide) (fun c_72 => ?_) (fun c_72 => ?_)
                  ·
                    refine lv_iinc (v := nI (wk + 1)) (lv' := [(4, .int (nI (wk + 1))), (5, .int (nI i)), (0, .ref u0), (1, .int old), (2, .int sp), (3, .int w)]) hx hb dX9_order_78 hl (k := 1) rfl (by first | rfl | exact nI_add _ 1 | (simp only [] ; exact nI_add _ 1)) (by decide) rfl (fun ls hl => ?_)
                    refine lv_iinc (v := nI (i + 1)) (lv' := [(5, .int (nI (i + 1))), (4, .int (nI (wk + 1))), (0, .ref u0), (1, .int old), (2, .int sp), (3, .int w)]) hx hb dX9_order_81 hl (k := 1) rfl (by first | rfl | exact nI_add _ 1 | (simp only [] ; exact nI_add _ 1)) (by decide) rfl (fun ls hl => ?_)
                    refine lv_goto (tgt := 33) hx hb dX9_order_84 (by decide) ?_
                    exact ih_33 (wk + 1) (i + 1) (by omega) (by rw [cntB, hwk, if_pos hcm]) (ordA_n hor (fun q => c_72 (by rw [hwk]; exact q.2))) (by omega) _ _ hP hD hS _ (lv_sub hl [0, 1, 2, 3, 4, 5] rfl)
                  ·
                    refine lv_iload hx hb dX9_order_75 (lv_at hl 0 rfl) ?_
                    exact hret _ () _ _ _ _ (rfl) (⟨by rw [aOrder, if_pos ⟨b_4, c_8⟩, if_pos (show brN xs ys rf sp n = 0 by omega)]; exact ordA_keep hn (by omega) hor hcm (by rw [← hwk]; exact c_72), trivial⟩) hP hD hS dX9_order_77
        exact L_33 (Nat.succ (n - 0)) 0 0 (Nat.zero_le _) (rfl) (rfl) (Nat.lt_succ_self _) _ _ hP hD hS _ (lv_sub hl [0, 1, 2, 3, 4, 5] rfl)
      ·
        have n_21 : 0 < (sumN (unl xs ys rf sp n) n / 2) := Nat.lt_of_not_le (fun q => c_21 ((nI_leI (show (sumN (unl xs ys rf sp n) n / 2) < 2147483648 by omega) (show 0 < 2147483648 by omega)).2 q))
        refine lv_bipush (v := (-9 : Int32)) hx hb dX9_order_24 (by decide) ?_
        exact hret _ () _ _ _ _ (rfl) (⟨by rw [aOrder, if_pos ⟨b_4, c_8⟩, if_neg (show ¬ brN xs ys rf sp n = 0 by omega)], trivial⟩) hP hD hS dX9_order_26
    ·
      refine lv_iconst (v := (-1 : Int32)) hx hb dX9_order_11 (by decide) ?_
      exact hret _ () _ _ _ _ (rfl) (⟨by rw [aOrder, if_neg (fun q => c_8 q.2)], trivial⟩) hP hD hS dX9_order_12
