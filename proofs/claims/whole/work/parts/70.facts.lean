theorem law_nest {s : State} {b : Nat} (htb : ∀ w ∈ lw_tbl, w.before #[Value.ref b] s = true) : ∀ w ∈ nestW, va_Nw w s := (lmc (P := fun w => va_Nw w s) (va_Nw.of rfl (htb _ lm_969)) (lmc (P := fun w => va_Nw w s) (va_Nw.of rfl (htb _ lm_970)) (lmc (P := fun w => va_Nw w s) (va_Nw.of rfl (htb _ lm_971)) (lmc (P := fun w => va_Nw w s) (va_Nw.of rfl (htb _ lm_972)) (lmc (P := fun w => va_Nw w s) (va_Nw.of rfl (htb _ lm_973)) (lmc (P := fun w => va_Nw w s) (va_Nw.of rfl (htb _ lm_974)) (lmc (P := fun w => va_Nw w s) (va_Nw.of rfl (htb _ lm_975)) (lmc (P := fun w => va_Nw w s) (va_Nw.of rfl (htb _ lm_976)) (lmc (P := fun w => va_Nw w s) (va_Nw.of rfl (htb _ lm_977)) (lmc (P := fun w => va_Nw w s) (va_Nw.of rfl (htb _ lm_978)) (lmc (P := fun w => va_Nw w s) (va_Nw.of rfl (htb _ lm_979)) (lmc (P := fun w => va_Nw w s) (va_Nw.of rfl (htb _ lm_980)) (lmc (P := fun w => va_Nw w s) (va_Nw.of rfl (htb _ lm_981)) (lmc (P := fun w => va_Nw w s) (va_Nw.of rfl (htb _ lm_982)) (lmc (P := fun w => va_Nw w s) (va_Nw.of rfl (htb _ lm_983)) (lmc (P := fun w => va_Nw w s) (va_Nw.of rfl (htb _ lm_984)) (lmc (P := fun w => va_Nw w s) (va_Nw.of rfl (htb _ lm_985)) (lmc (P := fun w => va_Nw w s) (va_Nw.of rfl (htb _ lm_986)) (lmc (P := fun w => va_Nw w s) (va_Nw.of rfl (htb _ lm_987)) (lmc (P := fun w => va_Nw w s) (va_Nw.of rfl (htb _ lm_988)) (lmc (P := fun w => va_Nw w s) (va_Nw.of rfl (htb _ lm_989)) (lmc (P := fun w => va_Nw w s) (va_Nw.of rfl (htb _ lm_990)) (lmc (P := fun w => va_Nw w s) (va_Nw.of rfl (htb _ lm_991)) (lmc (P := fun w => va_Nw w s) (va_Nw.of rfl (htb _ lm_992)) (lmc (P := fun w => va_Nw w s) (va_Nw.of rfl (htb _ lm_993)) (lmc (P := fun w => va_Nw w s) (va_Nw.of rfl (htb _ lm_994)) (lmc (P := fun w => va_Nw w s) (va_Nw.of rfl (htb _ lm_995)) (lmc (P := fun w => va_Nw w s) (va_Nw.of rfl (htb _ lm_996)) (lmc (P := fun w => va_Nw w s) (va_Nw.of rfl (htb _ lm_997)) (lmc (P := fun w => va_Nw w s) (va_Nw.of rfl (htb _ lm_998)) (lmc (P := fun w => va_Nw w s) (va_Nw.of rfl (htb _ lm_999)) (lmc (P := fun w => va_Nw w s) (va_Nw.of rfl (htb _ lm_1000)) (lmc (P := fun w => va_Nw w s) (va_Nw.of rfl (htb _ lm_1001)) (lmc (P := fun w => va_Nw w s) (va_Nw.of rfl (htb _ lm_1002)) (lmc (P := fun w => va_Nw w s) (va_Nw.of rfl (htb _ lm_1003)) (lmc (P := fun w => va_Nw w s) (va_Nw.of rfl (htb _ lm_1004)) (lmc (P := fun w => va_Nw w s) (va_Nw.of rfl (htb _ lm_1005)) (lmc (P := fun w => va_Nw w s) (va_Nw.of rfl (htb _ lm_1006)) (lmc (P := fun w => va_Nw w s) (va_Nw.of rfl (htb _ lm_1007)) (lmc (P := fun w => va_Nw w s) (va_Nw.of rfl (htb _ lm_1008)) (lmc (P := fun w => va_Nw w s) (va_Nw.of rfl (htb _ lm_1009)) (lmc (P := fun w => va_Nw w s) (va_Nw.of rfl (htb _ lm_1010)) (lmc (P := fun w => va_Nw w s) (va_Nw.of rfl (htb _ lm_1011)) lmn)))))))))))))))))))))))))))))))))))))))))))
theorem law_kn {s : State} {b : Nat} (htb : ∀ w ∈ lw_tbl, w.before #[Value.ref b] s = true) : ∃ (dC : Nat → ClassId) (dI : Nat → Nat → Nat), ∀ (k : Nat) (q : vw_C), vwCl[k]? = some q → u_Kn s q.1 q.2.1 q.2.2 (dC k) (dI k) := by
  obtain ⟨c0, i0, h0⟩ := u_known (C := RX0) (T := TX0) (N := 3) (n := 3) htb lt_wsX00 (htb _ lm_640)
  obtain ⟨c1, i1, h1⟩ := u_known (C := RX1) (T := TX1) (N := 5) (n := 5) htb lt_wsX10 (htb _ lm_660)
  obtain ⟨c2, i2, h2⟩ := u_known (C := RX2) (T := TX2) (N := 1) (n := 1) htb lt_wsX20 (htb _ lm_662)
  obtain ⟨c3, i3, h3⟩ := u_known (C := RX4) (T := TX4) (N := 9) (n := 9) htb lt_wsX40 (htb _ lm_642)
  obtain ⟨c4, i4, h4⟩ := u_known (C := RX5) (T := TX5) (N := 3) (n := 3) htb lt_wsX50 (htb _ lm_638)
  obtain ⟨c5, i5, h5⟩ := u_known (C := RX6) (T := TX6) (N := 2) (n := 2) htb lt_wsX60 (htb _ lm_646)
  obtain ⟨c6, i6, h6⟩ := u_known (C := RX7) (T := TX7) (N := 8) (n := 8) htb lt_wsX70 (htb _ lm_644)
  obtain ⟨c7, i7, h7⟩ := u_known (C := RX8) (T := TX8) (N := 10) (n := 10) htb lt_wsX80 (htb _ lm_658)
  obtain ⟨c8, i8, h8⟩ := u_known (C := RX9) (T := TX9) (N := 10) (n := 10) htb lt_wsX90 (htb _ lm_967)
  obtain ⟨c9, i9, h9⟩ := u_known (C := RX10) (T := TX10) (N := 31) (n := 31) htb lt_wsX100 (htb _ lm_968)
  refine ⟨fun k => ([c0, c1, c2, c3, c4, c5, c6, c7, c8, c9] : List ClassId).getD k c0, fun k => ([i0, i1, i2, i3, i4, i5, i6, i7, i8, i9] : List (Nat → Nat)).getD k i0, ?_⟩
  intro k q hq
  match k, hq with
  | 0, hq => cases hq; exact h0
  | 1, hq => cases hq; exact h1
  | 2, hq => cases hq; exact h2
  | 3, hq => cases hq; exact h3
  | 4, hq => cases hq; exact h4
  | 5, hq => cases hq; exact h5
  | 6, hq => cases hq; exact h6
  | 7, hq => cases hq; exact h7
  | 8, hq => cases hq; exact h8
  | 9, hq => cases hq; exact h9
  | k + 10, hq => simp [vwCl] at hq
theorem law_rows {s : State} {b : Nat} (htb : ∀ w ∈ lw_tbl, w.before #[Value.ref b] s = true) : ∃ cI cZ cO : ClassId, ∀ (k : Nat) (q : ClassId × FieldType), (TY cI cZ cO)[k]? = some q → ArrOfT s q.1 q.2 ∧ va_RA s q.1 q.2 := by
  obtain ⟨cI, kI, pI, h1, h2, h3⟩ := Cond.arrayClass_spec (htb _ lm_654)
  obtain ⟨cZ, kZ, pZ, g1, g2, g3⟩ := Cond.arrayClass_spec (htb _ lm_958)
  obtain ⟨pO, cO, kO, f1, f2, f3, f4, f5⟩ := Cond.arrayOver_spec (htb _ lm_1012)
  refine ⟨cI, cZ, cO, ?_⟩
  intro k q hq
  match k, hq with
  | 0, hq => cases hq; exact ⟨fun n z => ⟨fun k h => (by cases h), kI, h2, pI, h3⟩, h1⟩
  | 1, hq => cases hq; exact ⟨fun n z => ⟨fun k h => (by cases h), kZ, g2, pZ, g3⟩, g1⟩
  | 2, hq => cases hq; exact ⟨fun n z => ⟨fun k h => (by cases h), kO, f3, pO, f4⟩, ⟨kO, pO, f3, f4, f1, f5⟩⟩
  | k + 3, hq => simp [TY] at hq
set_option maxRecDepth 20000 in
theorem law_rgt {s : State} {b : Nat} (htb : ∀ w ∈ lw_tbl, w.before #[Value.ref b] s = true) (hgv : (Jvm.Cond.and given_1 narrow_1).before #[Value.ref b] s = true) {A : Nat → Prop} (hA : ∀ a : Nat, a < s.heap.size → ¬ A a) : ∃ g : Nat, va_Z "UnlikeRoofs" "RIGHTWARD" "[I" (.ref g) A s s.heap ∧ va_T .int g 5 (fun j => .int (rgt j)) A s s.heap := by
  have hs := flat_of_before _ hgv
  have hel : ∀ j : Nat, j < 5 → (Cond.eq (.elem (.static "UnlikeRoofs" "RIGHTWARD" "[I") (.int (Int32.ofNat j))) (.int (rgt j))).before #[Value.ref b] s = true := by
    intro j hj
    rcases (show j = 0 ∨ j = 1 ∨ j = 2 ∨ j = 3 ∨ j = 4 by omega) with rfl | rfl | rfl | rfl | rfl
    · exact hs (Cond.eq (.elem (.static "UnlikeRoofs" "RIGHTWARD" "[I") (.int (0 : Int32))) (.int (0 : Int32))) (by decide +kernel)
    · exact hs (Cond.eq (.elem (.static "UnlikeRoofs" "RIGHTWARD" "[I") (.int (1 : Int32))) (.int (1 : Int32))) (by decide +kernel)
    · exact hs (Cond.eq (.elem (.static "UnlikeRoofs" "RIGHTWARD" "[I") (.int (2 : Int32))) (.int (0 : Int32))) (by decide +kernel)
    · exact hs (Cond.eq (.elem (.static "UnlikeRoofs" "RIGHTWARD" "[I") (.int (3 : Int32))) (.int (-1 : Int32))) (by decide +kernel)
    · exact hs (Cond.eq (.elem (.static "UnlikeRoofs" "RIGHTWARD" "[I") (.int (4 : Int32))) (.int (0 : Int32))) (by decide +kernel)
  obtain ⟨t, ht, hT⟩ := va_Tof (f := fun j => .int (rgt j)) (A := A) (N := 5) (by decide) (hs (Cond.arrayOf (.static "UnlikeRoofs" "RIGHTWARD" "[I") .int) (by decide +kernel)) (va_eqt (hs (Cond.eq (.length (.static "UnlikeRoofs" "RIGHTWARD" "[I")) (.int (5 : Int32))) (by decide +kernel))) (fun j hj => va_eqt (hel j hj)) hA
  exact ⟨t, va_Zof (htb _ lm_1023) (htb _ lm_91) ht hA, hT⟩
set_option maxRecDepth 20000 in
theorem law_dwn {s : State} {b : Nat} (htb : ∀ w ∈ lw_tbl, w.before #[Value.ref b] s = true) (hgv : (Jvm.Cond.and given_1 narrow_1).before #[Value.ref b] s = true) {A : Nat → Prop} (hA : ∀ a : Nat, a < s.heap.size → ¬ A a) : ∃ g : Nat, va_Z "UnlikeRoofs" "DOWNWARD" "[I" (.ref g) A s s.heap ∧ va_T .int g 5 (fun j => .int (dwn j)) A s s.heap := by
  have hs := flat_of_before _ hgv
  have hel : ∀ j : Nat, j < 5 → (Cond.eq (.elem (.static "UnlikeRoofs" "DOWNWARD" "[I") (.int (Int32.ofNat j))) (.int (dwn j))).before #[Value.ref b] s = true := by
    intro j hj
    rcases (show j = 0 ∨ j = 1 ∨ j = 2 ∨ j = 3 ∨ j = 4 by omega) with rfl | rfl | rfl | rfl | rfl
    · exact hs (Cond.eq (.elem (.static "UnlikeRoofs" "DOWNWARD" "[I") (.int (0 : Int32))) (.int (0 : Int32))) (by decide +kernel)
    · exact hs (Cond.eq (.elem (.static "UnlikeRoofs" "DOWNWARD" "[I") (.int (1 : Int32))) (.int (0 : Int32))) (by decide +kernel)
    · exact hs (Cond.eq (.elem (.static "UnlikeRoofs" "DOWNWARD" "[I") (.int (2 : Int32))) (.int (1 : Int32))) (by decide +kernel)
    · exact hs (Cond.eq (.elem (.static "UnlikeRoofs" "DOWNWARD" "[I") (.int (3 : Int32))) (.int (0 : Int32))) (by decide +kernel)
    · exact hs (Cond.eq (.elem (.static "UnlikeRoofs" "DOWNWARD" "[I") (.int (4 : Int32))) (.int (-1 : Int32))) (by decide +kernel)
  obtain ⟨t, ht, hT⟩ := va_Tof (f := fun j => .int (dwn j)) (A := A) (N := 5) (by decide) (hs (Cond.arrayOf (.static "UnlikeRoofs" "DOWNWARD" "[I") .int) (by decide +kernel)) (va_eqt (hs (Cond.eq (.length (.static "UnlikeRoofs" "DOWNWARD" "[I")) (.int (5 : Int32))) (by decide +kernel))) (fun j hj => va_eqt (hel j hj)) hA
  exact ⟨t, va_Zof (htb _ lm_1024) (htb _ lm_91) ht hA, hT⟩
set_option maxRecDepth 20000 in
theorem law_texts {s : State} {b : Nat} (htb : ∀ w ∈ lw_tbl, w.before #[Value.ref b] s = true) (hgv : (Jvm.Cond.and given_1 narrow_1).before #[Value.ref b] s = true) {A : Nat → Prop} (hA : ∀ a : Nat, a < s.heap.size → ¬ A a) : ∃ gK gV : Nat → Nat, vk_S 10 wLen wByt gK gV A s s.heap ∧ wRef gK s := by
  have hs := flat_of_before _ hgv
  have hex : ∀ i : Nat, i < 10 → (Cond.exactly ((fun i : Nat => Term.string "UnlikeRoofs$Tokens" (([67, 73, 75, 77, 79, 81, 83, 85, 87, 89] : List Nat).getD i 0)) i) "java/lang/String").before #[Value.ref b] s = true := by
    intro i hi
    rcases (show i = 0 ∨ i = 1 ∨ i = 2 ∨ i = 3 ∨ i = 4 ∨ i = 5 ∨ i = 6 ∨ i = 7 ∨ i = 8 ∨ i = 9 by omega) with rfl | rfl | rfl | rfl | rfl | rfl | rfl | rfl | rfl | rfl
    · exact hs (Cond.exactly (.string "UnlikeRoofs$Tokens" 67) "java/lang/String") (by decide +kernel)
    · exact hs (Cond.exactly (.string "UnlikeRoofs$Tokens" 73) "java/lang/String") (by decide +kernel)
    · exact hs (Cond.exactly (.string "UnlikeRoofs$Tokens" 75) "java/lang/String") (by decide +kernel)
    · exact hs (Cond.exactly (.string "UnlikeRoofs$Tokens" 77) "java/lang/String") (by decide +kernel)
    · exact hs (Cond.exactly (.string "UnlikeRoofs$Tokens" 79) "java/lang/String") (by decide +kernel)
    · exact hs (Cond.exactly (.string "UnlikeRoofs$Tokens" 81) "java/lang/String") (by decide +kernel)
    · exact hs (Cond.exactly (.string "UnlikeRoofs$Tokens" 83) "java/lang/String") (by decide +kernel)
    · exact hs (Cond.exactly (.string "UnlikeRoofs$Tokens" 85) "java/lang/String") (by decide +kernel)
    · exact hs (Cond.exactly (.string "UnlikeRoofs$Tokens" 87) "java/lang/String") (by decide +kernel)
    · exact hs (Cond.exactly (.string "UnlikeRoofs$Tokens" 89) "java/lang/String") (by decide +kernel)
  have hco : ∀ i : Nat, i < 10 → (Cond.eq (.field ((fun i : Nat => Term.string "UnlikeRoofs$Tokens" (([67, 73, 75, 77, 79, 81, 83, 85, 87, 89] : List Nat).getD i 0)) i) "java/lang/String" "coder" "B") (.int 0)).before #[Value.ref b] s = true := by
    intro i hi
    rcases (show i = 0 ∨ i = 1 ∨ i = 2 ∨ i = 3 ∨ i = 4 ∨ i = 5 ∨ i = 6 ∨ i = 7 ∨ i = 8 ∨ i = 9 by omega) with rfl | rfl | rfl | rfl | rfl | rfl | rfl | rfl | rfl | rfl
    · exact hs (Cond.eq (.field (.string "UnlikeRoofs$Tokens" 67) "java/lang/String" "coder" "B") (.int (0 : Int32))) (by decide +kernel)
    · exact hs (Cond.eq (.field (.string "UnlikeRoofs$Tokens" 73) "java/lang/String" "coder" "B") (.int (0 : Int32))) (by decide +kernel)
    · exact hs (Cond.eq (.field (.string "UnlikeRoofs$Tokens" 75) "java/lang/String" "coder" "B") (.int (0 : Int32))) (by decide +kernel)
    · exact hs (Cond.eq (.field (.string "UnlikeRoofs$Tokens" 77) "java/lang/String" "coder" "B") (.int (0 : Int32))) (by decide +kernel)
    · exact hs (Cond.eq (.field (.string "UnlikeRoofs$Tokens" 79) "java/lang/String" "coder" "B") (.int (0 : Int32))) (by decide +kernel)
    · exact hs (Cond.eq (.field (.string "UnlikeRoofs$Tokens" 81) "java/lang/String" "coder" "B") (.int (0 : Int32))) (by decide +kernel)
    · exact hs (Cond.eq (.field (.string "UnlikeRoofs$Tokens" 83) "java/lang/String" "coder" "B") (.int (0 : Int32))) (by decide +kernel)
    · exact hs (Cond.eq (.field (.string "UnlikeRoofs$Tokens" 85) "java/lang/String" "coder" "B") (.int (0 : Int32))) (by decide +kernel)
    · exact hs (Cond.eq (.field (.string "UnlikeRoofs$Tokens" 87) "java/lang/String" "coder" "B") (.int (0 : Int32))) (by decide +kernel)
    · exact hs (Cond.eq (.field (.string "UnlikeRoofs$Tokens" 89) "java/lang/String" "coder" "B") (.int (0 : Int32))) (by decide +kernel)
  have har : ∀ i : Nat, i < 10 → (Cond.arrayOf (.field ((fun i : Nat => Term.string "UnlikeRoofs$Tokens" (([67, 73, 75, 77, 79, 81, 83, 85, 87, 89] : List Nat).getD i 0)) i) "java/lang/String" "value" "[B") .byte).before #[Value.ref b] s = true := by
    intro i hi
    rcases (show i = 0 ∨ i = 1 ∨ i = 2 ∨ i = 3 ∨ i = 4 ∨ i = 5 ∨ i = 6 ∨ i = 7 ∨ i = 8 ∨ i = 9 by omega) with rfl | rfl | rfl | rfl | rfl | rfl | rfl | rfl | rfl | rfl
    · exact hs (Cond.arrayOf (.field (.string "UnlikeRoofs$Tokens" 67) "java/lang/String" "value" "[B") .byte) (by decide +kernel)
    · exact hs (Cond.arrayOf (.field (.string "UnlikeRoofs$Tokens" 73) "java/lang/String" "value" "[B") .byte) (by decide +kernel)
    · exact hs (Cond.arrayOf (.field (.string "UnlikeRoofs$Tokens" 75) "java/lang/String" "value" "[B") .byte) (by decide +kernel)
    · exact hs (Cond.arrayOf (.field (.string "UnlikeRoofs$Tokens" 77) "java/lang/String" "value" "[B") .byte) (by decide +kernel)
    · exact hs (Cond.arrayOf (.field (.string "UnlikeRoofs$Tokens" 79) "java/lang/String" "value" "[B") .byte) (by decide +kernel)
    · exact hs (Cond.arrayOf (.field (.string "UnlikeRoofs$Tokens" 81) "java/lang/String" "value" "[B") .byte) (by decide +kernel)
    · exact hs (Cond.arrayOf (.field (.string "UnlikeRoofs$Tokens" 83) "java/lang/String" "value" "[B") .byte) (by decide +kernel)
    · exact hs (Cond.arrayOf (.field (.string "UnlikeRoofs$Tokens" 85) "java/lang/String" "value" "[B") .byte) (by decide +kernel)
    · exact hs (Cond.arrayOf (.field (.string "UnlikeRoofs$Tokens" 87) "java/lang/String" "value" "[B") .byte) (by decide +kernel)
    · exact hs (Cond.arrayOf (.field (.string "UnlikeRoofs$Tokens" 89) "java/lang/String" "value" "[B") .byte) (by decide +kernel)
  have hle : ∀ i : Nat, i < 10 → (Cond.eq (.length (.field ((fun i : Nat => Term.string "UnlikeRoofs$Tokens" (([67, 73, 75, 77, 79, 81, 83, 85, 87, 89] : List Nat).getD i 0)) i) "java/lang/String" "value" "[B")) (.int (Int32.ofNat (wLen.getD i 0)))).before #[Value.ref b] s = true := by
    intro i hi
    rcases (show i = 0 ∨ i = 1 ∨ i = 2 ∨ i = 3 ∨ i = 4 ∨ i = 5 ∨ i = 6 ∨ i = 7 ∨ i = 8 ∨ i = 9 by omega) with rfl | rfl | rfl | rfl | rfl | rfl | rfl | rfl | rfl | rfl
    · exact hs (Cond.eq (.length (.field (.string "UnlikeRoofs$Tokens" 67) "java/lang/String" "value" "[B")) (.int (4 : Int32))) (by decide +kernel)
    · exact hs (Cond.eq (.length (.field (.string "UnlikeRoofs$Tokens" 73) "java/lang/String" "value" "[B")) (.int (5 : Int32))) (by decide +kernel)
    · exact hs (Cond.eq (.length (.field (.string "UnlikeRoofs$Tokens" 75) "java/lang/String" "value" "[B")) (.int (4 : Int32))) (by decide +kernel)
    · exact hs (Cond.eq (.length (.field (.string "UnlikeRoofs$Tokens" 77) "java/lang/String" "value" "[B")) (.int (5 : Int32))) (by decide +kernel)
    · exact hs (Cond.eq (.length (.field (.string "UnlikeRoofs$Tokens" 79) "java/lang/String" "value" "[B")) (.int (4 : Int32))) (by decide +kernel)
    · exact hs (Cond.eq (.length (.field (.string "UnlikeRoofs$Tokens" 81) "java/lang/String" "value" "[B")) (.int (4 : Int32))) (by decide +kernel)
    · exact hs (Cond.eq (.length (.field (.string "UnlikeRoofs$Tokens" 83) "java/lang/String" "value" "[B")) (.int (5 : Int32))) (by decide +kernel)
    · exact hs (Cond.eq (.length (.field (.string "UnlikeRoofs$Tokens" 85) "java/lang/String" "value" "[B")) (.int (4 : Int32))) (by decide +kernel)
    · exact hs (Cond.eq (.length (.field (.string "UnlikeRoofs$Tokens" 87) "java/lang/String" "value" "[B")) (.int (4 : Int32))) (by decide +kernel)
    · exact hs (Cond.eq (.length (.field (.string "UnlikeRoofs$Tokens" 89) "java/lang/String" "value" "[B")) (.int (2 : Int32))) (by decide +kernel)
  have hel : ∀ i : Nat, i < 10 → ∀ j : Nat, j < wLen.getD i 0 → (Cond.eq (.elem (.field ((fun i : Nat => Term.string "UnlikeRoofs$Tokens" (([67, 73, 75, 77, 79, 81, 83, 85, 87, 89] : List Nat).getD i 0)) i) "java/lang/String" "value" "[B") (.int (Int32.ofNat j))) (.int ((wByt.getD i []).getD j 0))).before #[Value.ref b] s = true := by
    intro i hi
    rcases (show i = 0 ∨ i = 1 ∨ i = 2 ∨ i = 3 ∨ i = 4 ∨ i = 5 ∨ i = 6 ∨ i = 7 ∨ i = 8 ∨ i = 9 by omega) with rfl | rfl | rfl | rfl | rfl | rfl | rfl | rfl | rfl | rfl
    · intro j hj
      have hj : j < 4 := hj
      rcases (show j = 0 ∨ j = 1 ∨ j = 2 ∨ j = 3 by omega) with rfl | rfl | rfl | rfl
      · exact hs (Cond.eq (.elem (.field (.string "UnlikeRoofs$Tokens" 67) "java/lang/String" "value" "[B") (.int (0 : Int32))) (.int (115 : Int32))) (by decide +kernel)
      · exact hs (Cond.eq (.elem (.field (.string "UnlikeRoofs$Tokens" 67) "java/lang/String" "value" "[B") (.int (1 : Int32))) (.int (111 : Int32))) (by decide +kernel)
      · exact hs (Cond.eq (.elem (.field (.string "UnlikeRoofs$Tokens" 67) "java/lang/String" "value" "[B") (.int (2 : Int32))) (.int (114 : Int32))) (by decide +kernel)
      · exact hs (Cond.eq (.elem (.field (.string "UnlikeRoofs$Tokens" 67) "java/lang/String" "value" "[B") (.int (3 : Int32))) (.int (116 : Int32))) (by decide +kernel)
    · intro j hj
      have hj : j < 5 := hj
      rcases (show j = 0 ∨ j = 1 ∨ j = 2 ∨ j = 3 ∨ j = 4 by omega) with rfl | rfl | rfl | rfl | rfl
      · exact hs (Cond.eq (.elem (.field (.string "UnlikeRoofs$Tokens" 73) "java/lang/String" "value" "[B") (.int (0 : Int32))) (.int (104 : Int32))) (by decide +kernel)
      · exact hs (Cond.eq (.elem (.field (.string "UnlikeRoofs$Tokens" 73) "java/lang/String" "value" "[B") (.int (1 : Int32))) (.int (111 : Int32))) (by decide +kernel)
      · exact hs (Cond.eq (.elem (.field (.string "UnlikeRoofs$Tokens" 73) "java/lang/String" "value" "[B") (.int (2 : Int32))) (.int (117 : Int32))) (by decide +kernel)
      · exact hs (Cond.eq (.elem (.field (.string "UnlikeRoofs$Tokens" 73) "java/lang/String" "value" "[B") (.int (3 : Int32))) (.int (115 : Int32))) (by decide +kernel)
      · exact hs (Cond.eq (.elem (.field (.string "UnlikeRoofs$Tokens" 73) "java/lang/String" "value" "[B") (.int (4 : Int32))) (.int (101 : Int32))) (by decide +kernel)
    · intro j hj
      have hj : j < 4 := hj
      rcases (show j = 0 ∨ j = 1 ∨ j = 2 ∨ j = 3 by omega) with rfl | rfl | rfl | rfl
      · exact hs (Cond.eq (.elem (.field (.string "UnlikeRoofs$Tokens" 75) "java/lang/String" "value" "[B") (.int (0 : Int32))) (.int (114 : Int32))) (by decide +kernel)
      · exact hs (Cond.eq (.elem (.field (.string "UnlikeRoofs$Tokens" 75) "java/lang/String" "value" "[B") (.int (1 : Int32))) (.int (111 : Int32))) (by decide +kernel)
      · exact hs (Cond.eq (.elem (.field (.string "UnlikeRoofs$Tokens" 75) "java/lang/String" "value" "[B") (.int (2 : Int32))) (.int (111 : Int32))) (by decide +kernel)
      · exact hs (Cond.eq (.elem (.field (.string "UnlikeRoofs$Tokens" 75) "java/lang/String" "value" "[B") (.int (3 : Int32))) (.int (102 : Int32))) (by decide +kernel)
    · intro j hj
      have hj : j < 5 := hj
      rcases (show j = 0 ∨ j = 1 ∨ j = 2 ∨ j = 3 ∨ j = 4 by omega) with rfl | rfl | rfl | rfl | rfl
      · exact hs (Cond.eq (.elem (.field (.string "UnlikeRoofs$Tokens" 77) "java/lang/String" "value" "[B") (.int (0 : Int32))) (.int (98 : Int32))) (by decide +kernel)
      · exact hs (Cond.eq (.elem (.field (.string "UnlikeRoofs$Tokens" 77) "java/lang/String" "value" "[B") (.int (1 : Int32))) (.int (111 : Int32))) (by decide +kernel)
      · exact hs (Cond.eq (.elem (.field (.string "UnlikeRoofs$Tokens" 77) "java/lang/String" "value" "[B") (.int (2 : Int32))) (.int (117 : Int32))) (by decide +kernel)
      · exact hs (Cond.eq (.elem (.field (.string "UnlikeRoofs$Tokens" 77) "java/lang/String" "value" "[B") (.int (3 : Int32))) (.int (110 : Int32))) (by decide +kernel)
      · exact hs (Cond.eq (.elem (.field (.string "UnlikeRoofs$Tokens" 77) "java/lang/String" "value" "[B") (.int (4 : Int32))) (.int (100 : Int32))) (by decide +kernel)
    · intro j hj
      have hj : j < 4 := hj
      rcases (show j = 0 ∨ j = 1 ∨ j = 2 ∨ j = 3 by omega) with rfl | rfl | rfl | rfl
      · exact hs (Cond.eq (.elem (.field (.string "UnlikeRoofs$Tokens" 79) "java/lang/String" "value" "[B") (.int (0 : Int32))) (.int (119 : Int32))) (by decide +kernel)
      · exact hs (Cond.eq (.elem (.field (.string "UnlikeRoofs$Tokens" 79) "java/lang/String" "value" "[B") (.int (1 : Int32))) (.int (105 : Int32))) (by decide +kernel)
      · exact hs (Cond.eq (.elem (.field (.string "UnlikeRoofs$Tokens" 79) "java/lang/String" "value" "[B") (.int (2 : Int32))) (.int (110 : Int32))) (by decide +kernel)
      · exact hs (Cond.eq (.elem (.field (.string "UnlikeRoofs$Tokens" 79) "java/lang/String" "value" "[B") (.int (3 : Int32))) (.int (100 : Int32))) (by decide +kernel)
    · intro j hj
      have hj : j < 4 := hj
      rcases (show j = 0 ∨ j = 1 ∨ j = 2 ∨ j = 3 by omega) with rfl | rfl | rfl | rfl
      · exact hs (Cond.eq (.elem (.field (.string "UnlikeRoofs$Tokens" 81) "java/lang/String" "value" "[B") (.int (0 : Int32))) (.int (110 : Int32))) (by decide +kernel)
      · exact hs (Cond.eq (.elem (.field (.string "UnlikeRoofs$Tokens" 81) "java/lang/String" "value" "[B") (.int (1 : Int32))) (.int (111 : Int32))) (by decide +kernel)
      · exact hs (Cond.eq (.elem (.field (.string "UnlikeRoofs$Tokens" 81) "java/lang/String" "value" "[B") (.int (2 : Int32))) (.int (110 : Int32))) (by decide +kernel)
      · exact hs (Cond.eq (.elem (.field (.string "UnlikeRoofs$Tokens" 81) "java/lang/String" "value" "[B") (.int (3 : Int32))) (.int (101 : Int32))) (by decide +kernel)
    · intro j hj
      have hj : j < 5 := hj
      rcases (show j = 0 ∨ j = 1 ∨ j = 2 ∨ j = 3 ∨ j = 4 by omega) with rfl | rfl | rfl | rfl | rfl
      · exact hs (Cond.eq (.elem (.field (.string "UnlikeRoofs$Tokens" 83) "java/lang/String" "value" "[B") (.int (0 : Int32))) (.int (114 : Int32))) (by decide +kernel)
      · exact hs (Cond.eq (.elem (.field (.string "UnlikeRoofs$Tokens" 83) "java/lang/String" "value" "[B") (.int (1 : Int32))) (.int (105 : Int32))) (by decide +kernel)
      · exact hs (Cond.eq (.elem (.field (.string "UnlikeRoofs$Tokens" 83) "java/lang/String" "value" "[B") (.int (2 : Int32))) (.int (103 : Int32))) (by decide +kernel)
      · exact hs (Cond.eq (.elem (.field (.string "UnlikeRoofs$Tokens" 83) "java/lang/String" "value" "[B") (.int (3 : Int32))) (.int (104 : Int32))) (by decide +kernel)
      · exact hs (Cond.eq (.elem (.field (.string "UnlikeRoofs$Tokens" 83) "java/lang/String" "value" "[B") (.int (4 : Int32))) (.int (116 : Int32))) (by decide +kernel)
    · intro j hj
      have hj : j < 4 := hj
      rcases (show j = 0 ∨ j = 1 ∨ j = 2 ∨ j = 3 by omega) with rfl | rfl | rfl | rfl
      · exact hs (Cond.eq (.elem (.field (.string "UnlikeRoofs$Tokens" 85) "java/lang/String" "value" "[B") (.int (0 : Int32))) (.int (100 : Int32))) (by decide +kernel)
      · exact hs (Cond.eq (.elem (.field (.string "UnlikeRoofs$Tokens" 85) "java/lang/String" "value" "[B") (.int (1 : Int32))) (.int (111 : Int32))) (by decide +kernel)
      · exact hs (Cond.eq (.elem (.field (.string "UnlikeRoofs$Tokens" 85) "java/lang/String" "value" "[B") (.int (2 : Int32))) (.int (119 : Int32))) (by decide +kernel)
      · exact hs (Cond.eq (.elem (.field (.string "UnlikeRoofs$Tokens" 85) "java/lang/String" "value" "[B") (.int (3 : Int32))) (.int (110 : Int32))) (by decide +kernel)
    · intro j hj
      have hj : j < 4 := hj
      rcases (show j = 0 ∨ j = 1 ∨ j = 2 ∨ j = 3 by omega) with rfl | rfl | rfl | rfl
      · exact hs (Cond.eq (.elem (.field (.string "UnlikeRoofs$Tokens" 87) "java/lang/String" "value" "[B") (.int (0 : Int32))) (.int (108 : Int32))) (by decide +kernel)
      · exact hs (Cond.eq (.elem (.field (.string "UnlikeRoofs$Tokens" 87) "java/lang/String" "value" "[B") (.int (1 : Int32))) (.int (101 : Int32))) (by decide +kernel)
      · exact hs (Cond.eq (.elem (.field (.string "UnlikeRoofs$Tokens" 87) "java/lang/String" "value" "[B") (.int (2 : Int32))) (.int (102 : Int32))) (by decide +kernel)
      · exact hs (Cond.eq (.elem (.field (.string "UnlikeRoofs$Tokens" 87) "java/lang/String" "value" "[B") (.int (3 : Int32))) (.int (116 : Int32))) (by decide +kernel)
    · intro j hj
      have hj : j < 2 := hj
      rcases (show j = 0 ∨ j = 1 by omega) with rfl | rfl
      · exact hs (Cond.eq (.elem (.field (.string "UnlikeRoofs$Tokens" 89) "java/lang/String" "value" "[B") (.int (0 : Int32))) (.int (117 : Int32))) (by decide +kernel)
      · exact hs (Cond.eq (.elem (.field (.string "UnlikeRoofs$Tokens" 89) "java/lang/String" "value" "[B") (.int (1 : Int32))) (.int (112 : Int32))) (by decide +kernel)
  have hne : ∀ i j : Nat, i < 10 → j < 10 → i ≠ j → (Cond.not (Cond.eq ((fun i : Nat => Term.string "UnlikeRoofs$Tokens" (([67, 73, 75, 77, 79, 81, 83, 85, 87, 89] : List Nat).getD i 0)) i) ((fun i : Nat => Term.string "UnlikeRoofs$Tokens" (([67, 73, 75, 77, 79, 81, 83, 85, 87, 89] : List Nat).getD i 0)) j))).before #[Value.ref b] s = true ∨ (Cond.not (Cond.eq ((fun i : Nat => Term.string "UnlikeRoofs$Tokens" (([67, 73, 75, 77, 79, 81, 83, 85, 87, 89] : List Nat).getD i 0)) j) ((fun i : Nat => Term.string "UnlikeRoofs$Tokens" (([67, 73, 75, 77, 79, 81, 83, 85, 87, 89] : List Nat).getD i 0)) i))).before #[Value.ref b] s = true := by
    have key : ∀ i : Fin 10, ∀ j : Fin 10, i ≠ j → (Cond.not (Cond.eq ((fun i : Nat => Term.string "UnlikeRoofs$Tokens" (([67, 73, 75, 77, 79, 81, 83, 85, 87, 89] : List Nat).getD i 0)) i.val) ((fun i : Nat => Term.string "UnlikeRoofs$Tokens" (([67, 73, 75, 77, 79, 81, 83, 85, 87, 89] : List Nat).getD i 0)) j.val))) ∈ flatC (Jvm.Cond.and given_1 narrow_1) ∨ (Cond.not (Cond.eq ((fun i : Nat => Term.string "UnlikeRoofs$Tokens" (([67, 73, 75, 77, 79, 81, 83, 85, 87, 89] : List Nat).getD i 0)) j.val) ((fun i : Nat => Term.string "UnlikeRoofs$Tokens" (([67, 73, 75, 77, 79, 81, 83, 85, 87, 89] : List Nat).getD i 0)) i.val))) ∈ flatC (Jvm.Cond.and given_1 narrow_1) := by decide +kernel
    intro i j hi hj hij
    exact (key ⟨i, hi⟩ ⟨j, hj⟩ (fun q => hij (congrArg Fin.val q))).imp (fun q => hs _ q) (fun q => hs _ q)
  have hN : ∀ i : Nat, i < 10 → wLen.getD i 0 < 2 ^ 31 := fun i hi => Nat.lt_of_le_of_lt (wl_5 hi) (by decide)
  obtain ⟨gK, gV, h1, h2⟩ := vk_Sof (tm := (fun i : Nat => Term.string "UnlikeRoofs$Tokens" (([67, 73, 75, 77, 79, 81, 83, 85, 87, 89] : List Nat).getD i 0))) (A := A) hN hex hco har hle hel hne hA
  exact ⟨gK, gV, h1, vk_R.of (htb _ lm_1013) (h2 0 (by decide)), vk_R.of (htb _ lm_1014) (h2 1 (by decide)), vk_R.of (htb _ lm_1015) (h2 2 (by decide)), vk_R.of (htb _ lm_1016) (h2 3 (by decide)), vk_R.of (htb _ lm_1017) (h2 4 (by decide)), vk_R.of (htb _ lm_1018) (h2 5 (by decide)), vk_R.of (htb _ lm_1019) (h2 6 (by decide)), vk_R.of (htb _ lm_1020) (h2 7 (by decide)), vk_R.of (htb _ lm_1021) (h2 8 (by decide)), vk_R.of (htb _ lm_1022) (h2 9 (by decide))⟩
set_option maxRecDepth 20000 in
theorem law_G {s : State} {b : Nat} (htb : ∀ w ∈ lw_tbl, w.before #[Value.ref b] s = true) (hgv : (Jvm.Cond.and given_1 narrow_1).before #[Value.ref b] s = true) {A : Nat → Prop} (hA : ∀ a : Nat, a < s.heap.size → ¬ A a) : ∃ (gR gD : Nat) (gK gV : Nat → Nat), xGc gR gD gK gV A s s.heap := by
  have hs := flat_of_before _ hgv
  obtain ⟨gR, r1, r2⟩ := law_rgt htb hgv hA
  obtain ⟨gD, d1, d2⟩ := law_dwn htb hgv hA
  obtain ⟨gK, gV, k1, k2⟩ := law_texts htb hgv hA
  refine ⟨gR, gD, gK, gV, law_nest htb, ⟨r1, r2⟩, ⟨d1, d2⟩, k1, k2, va_Zof (htb _ lm_1025) (htb _ lm_166) (va_eqi (hs (Cond.eq (.static "java/lang/String" "COMPACT_STRINGS" "Z") (.int (1 : Int32))) (by decide +kernel))) hA, va_Zqof (htb _ lm_1026) (htb _ lm_187) (hs (Cond.isRef (.static "jdk/internal/util/Preconditions" "SIOOBE_FORMATTER" "Ljava/util/function/BiFunction;")) (by decide +kernel)) hA⟩
