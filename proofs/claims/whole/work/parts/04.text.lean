/-! What the scanner finds, as functions of the bytes b (an int each) and their number n -/
def tx_letter (c : Int32) : Bool := (!decide (c < nI 65) && decide (c ≤ nI 90)) || (!decide (c < nI 97) && !decide (nI 122 < c))
def tx_digit (c : Int32) : Bool := !decide (c < nI 48) && !decide (nI 57 < c)
def tx_wordb (c : Int32) : Bool := tx_letter c || (tx_digit c || decide (c = nI 95))
def tx_blank (c : Int32) : Bool := decide (c = nI 9) || (decide (c = nI 10) || (decide (c = nI 13) || decide (c = nI 32)))
/-- the place of the next 10, from i on, k bytes are left -/
def tx_line (b : Nat → Int32) : Nat → Nat → Nat
  | 0, i => i
  | k + 1, i => if b i = nI 10 then i else tx_line b k (i + 1)
/-- behind the next star and slash, from i on; k places have one behind them -/
def tx_com (b : Nat → Int32) : Nat → Nat → Option Nat
  | 0, _ => none
  | k + 1, i => if b i = nI 42 ∧ b (i + 1) = nI 47 then some (i + 2) else tx_com b k (i + 1)
def tx_beh (b : Nat → Int32) (n i : Nat) : Nat :=
  if tx_blank (b i) = true then i + 1
  else if b i ≠ nI 47 ∨ n ≤ i + 1 then i
  else if b (i + 1) = nI 47 then tx_line b (n - (i + 2)) (i + 2)
  else if b (i + 1) = nI 42 then (tx_com b (n - 1 - (i + 2)) (i + 2)).getD i
  else i
def tx_skip (b : Nat → Int32) (n : Nat) : Nat → Nat → Nat
  | 0, i => i
  | k + 1, i => if i < n then (if tx_beh b n i = i then i else tx_skip b n k (tx_beh b n i)) else i
/-- the end of the bytes of a word, from i on, k bytes are left -/
def tx_wend (b : Nat → Int32) : Nat → Nat → Nat
  | 0, i => i
  | k + 1, i => if tx_wordb (b i) = true then tx_wend b k (i + 1) else i

theorem d_Text_isLetter_0 : decode b_Text_isLetter 0 = .ok (.iload_n 0, 1) := by decide +kernel
theorem d_Text_isLetter_1 : decode b_Text_isLetter 1 = .ok (.bipush 65, 2) := by decide +kernel
theorem d_Text_isLetter_3 : decode b_Text_isLetter 3 = .ok (.if_icmp .lt 9, 3) := by decide +kernel
theorem d_Text_isLetter_6 : decode b_Text_isLetter 6 = .ok (.iload_n 0, 1) := by decide +kernel
theorem d_Text_isLetter_7 : decode b_Text_isLetter 7 = .ok (.bipush 90, 2) := by decide +kernel
theorem d_Text_isLetter_9 : decode b_Text_isLetter 9 = .ok (.if_icmp .le 15, 3) := by decide +kernel
theorem d_Text_isLetter_12 : decode b_Text_isLetter 12 = .ok (.iload_n 0, 1) := by decide +kernel
theorem d_Text_isLetter_13 : decode b_Text_isLetter 13 = .ok (.bipush 97, 2) := by decide +kernel
theorem d_Text_isLetter_15 : decode b_Text_isLetter 15 = .ok (.if_icmp .lt 13, 3) := by decide +kernel
theorem d_Text_isLetter_18 : decode b_Text_isLetter 18 = .ok (.iload_n 0, 1) := by decide +kernel
theorem d_Text_isLetter_19 : decode b_Text_isLetter 19 = .ok (.bipush 122, 2) := by decide +kernel
theorem d_Text_isLetter_21 : decode b_Text_isLetter 21 = .ok (.if_icmp .gt 7, 3) := by decide +kernel
theorem d_Text_isLetter_24 : decode b_Text_isLetter 24 = .ok (.iconst 1, 1) := by decide +kernel
theorem d_Text_isLetter_25 : decode b_Text_isLetter 25 = .ok (.goto 4, 3) := by decide +kernel
theorem d_Text_isLetter_28 : decode b_Text_isLetter 28 = .ok (.iconst 0, 1) := by decide +kernel
theorem d_Text_isLetter_29 : decode b_Text_isLetter 29 = .ok (.ireturn, 1) := by decide +kernel
set_option maxHeartbeats 4000000 in
set_option maxRecDepth 100000 in
/-- isLetter -/
theorem c_Text_isLetter (l : Launch) (dC : Nat → ClassId) (dI : Nat → Nat → Nat) (cB cI cL cZ cC cO : ClassId) (ch : Int32) (sz : Nat)  : Met l y_Text_isLetter w_Text_isLetter ({ frames := 0, cells := 0, slots := 0, locals := 0 }) (va_Pc [.int ch] (wB (dC, dI) cl [(cB, .byte), (cI, .int), (cL, .long), (cZ, .boolean), (cC, .char), (cO, .object "java/lang/Object")] sz [])) (va_Qi (fun (r : Int32) (u : Unit) => r = bI (tx_letter ch)) (fun _ t => wA (dC, dI) cl [(cB, .byte), (cI, .int), (cL, .long), (cZ, .boolean), (cC, .char), (cO, .object "java/lang/Object")] (va_A [] sz) [] t) (va_A [] sz)) 0 0 (va_A [] sz) := by
  refine Met.ofW (cc := b_Text_isLetter) (maxL := 1) (ret := (some ClassFile.FieldType.boolean)) (by decide) rfl ?_
  intro p e s m args below meth c s₁ B hml hv
  obtain ⟨rfl, hsz, hP, hK, hD0, hF⟩ := hv
  have hx := B.exec
  have hb := B.bytes
  have hr := B.returns
  have hts := atoms_spec (ws := w_Text_isLetter) B.pre
  have hts : ∀ w ∈ tb, w.before _ s = true := fun w h => hts w (List.mem_cons_of_mem _ h)
  have hown : s.vm.findClass R_Text = some m.cls := findClass_of_methodNamed B.named
  have hlocks := B.notSynchronized
  subst hsz
  have hD := hD0.self (sz := s.heap.size)
  generalize hAe : va_A [] s.heap.size = A at hD hF ⊢
  have hA : ∀ q : Nat, s.heap.size ≤ q → A q := fun q h => by rw [← hAe]; exact Or.inr h
  have hS : va_S A s.heap s.heap [] := va_S.rf
  have hP : va_P (dC, dI) cl [] s.heap := hP
  have hl := lv_entry ([.int ch]) (n := 1) (Nat.le_of_ble_eq_true rfl)
  rw [lg_entry_eq]
  generalize (lg_sl ([.int ch]) ++ List.replicate (1 - (lg_sl ([.int ch])).length) Slot.unset).toArray = ls at hl ⊢
  have hl : lv_has ls 1 [(0, .int ch)] := hl
  refine lv_iload_n hx hb d_Text_isLetter_0 rfl (lv_at hl 0 rfl) ?_
  refine lv_bipush (v := nI 65) hx hb d_Text_isLetter_1 (by decide) ?_
  refine lv_icmp_lt (tgt := 12) hx hb d_Text_isLetter_3 (by decide) (fun c_1 => ?_) (fun c_1 => ?_)
  · refine lv_iload_n hx hb d_Text_isLetter_12 rfl (lv_at hl 0 rfl) ?_
    refine lv_bipush (v := nI 97) hx hb d_Text_isLetter_13 (by decide) ?_
    refine lv_icmp_lt (tgt := 28) hx hb d_Text_isLetter_15 (by decide) (fun c_2 => ?_) (fun c_2 => ?_)
    · refine lv_iconst (v := nI 0) hx hb d_Text_isLetter_28 (by decide) ?_
      exact wr_z (x := false) hx hb hr hlocks () (congrArg bI (by simp [tx_letter, c_1, c_2])) hK hP hD hS d_Text_isLetter_29
    · refine lv_iload_n hx hb d_Text_isLetter_18 rfl (lv_at hl 0 rfl) ?_
      refine lv_bipush (v := nI 122) hx hb d_Text_isLetter_19 (by decide) ?_
      refine lv_icmp_gt (tgt := 28) hx hb d_Text_isLetter_21 (by decide) (fun c_3 => ?_) (fun c_3 => ?_)
      · refine lv_iconst (v := nI 0) hx hb d_Text_isLetter_28 (by decide) ?_
        exact wr_z (x := false) hx hb hr hlocks () (congrArg bI (by simp [tx_letter, c_1, c_2, c_3])) hK hP hD hS d_Text_isLetter_29
      · refine lv_iconst (v := nI 1) hx hb d_Text_isLetter_24 (by decide) ?_
        refine lv_goto (tgt := 29) hx hb d_Text_isLetter_25 (by decide) ?_
        exact wr_z (x := true) hx hb hr hlocks () (congrArg bI (by simp [tx_letter, c_1, c_2, c_3])) hK hP hD hS d_Text_isLetter_29
  · refine lv_iload_n hx hb d_Text_isLetter_6 rfl (lv_at hl 0 rfl) ?_
    refine lv_bipush (v := nI 90) hx hb d_Text_isLetter_7 (by decide) ?_
    refine lv_icmp_le (tgt := 24) hx hb d_Text_isLetter_9 (by decide) (fun c_4 => ?_) (fun c_4 => ?_)
    · refine lv_iconst (v := nI 1) hx hb d_Text_isLetter_24 (by decide) ?_
      refine lv_goto (tgt := 29) hx hb d_Text_isLetter_25 (by decide) ?_
      exact wr_z (x := true) hx hb hr hlocks () (congrArg bI (by simp [tx_letter, c_1, c_4])) hK hP hD hS d_Text_isLetter_29
    · refine lv_iload_n hx hb d_Text_isLetter_12 rfl (lv_at hl 0 rfl) ?_
      refine lv_bipush (v := nI 97) hx hb d_Text_isLetter_13 (by decide) ?_
      refine lv_icmp_lt (tgt := 28) hx hb d_Text_isLetter_15 (by decide) (fun c_5 => ?_) (fun c_5 => ?_)
      · refine lv_iconst (v := nI 0) hx hb d_Text_isLetter_28 (by decide) ?_
        exact wr_z (x := false) hx hb hr hlocks () (congrArg bI (by simp [tx_letter, c_1, c_4, c_5])) hK hP hD hS d_Text_isLetter_29
      · refine lv_iload_n hx hb d_Text_isLetter_18 rfl (lv_at hl 0 rfl) ?_
        refine lv_bipush (v := nI 122) hx hb d_Text_isLetter_19 (by decide) ?_
        refine lv_icmp_gt (tgt := 28) hx hb d_Text_isLetter_21 (by decide) (fun c_6 => ?_) (fun c_6 => ?_)
        · refine lv_iconst (v := nI 0) hx hb d_Text_isLetter_28 (by decide) ?_
          exact wr_z (x := false) hx hb hr hlocks () (congrArg bI (by simp [tx_letter, c_1, c_4, c_5, c_6])) hK hP hD hS d_Text_isLetter_29
        · refine lv_iconst (v := nI 1) hx hb d_Text_isLetter_24 (by decide) ?_
          refine lv_goto (tgt := 29) hx hb d_Text_isLetter_25 (by decide) ?_
          exact wr_z (x := true) hx hb hr hlocks () (congrArg bI (by simp [tx_letter, c_1, c_4, c_5, c_6])) hK hP hD hS d_Text_isLetter_29
theorem d_Text_isDigit_0 : decode b_Text_isDigit 0 = .ok (.iload_n 0, 1) := by decide +kernel
theorem d_Text_isDigit_1 : decode b_Text_isDigit 1 = .ok (.bipush 48, 2) := by decide +kernel
theorem d_Text_isDigit_3 : decode b_Text_isDigit 3 = .ok (.if_icmp .lt 13, 3) := by decide +kernel
theorem d_Text_isDigit_6 : decode b_Text_isDigit 6 = .ok (.iload_n 0, 1) := by decide +kernel
theorem d_Text_isDigit_7 : decode b_Text_isDigit 7 = .ok (.bipush 57, 2) := by decide +kernel
theorem d_Text_isDigit_9 : decode b_Text_isDigit 9 = .ok (.if_icmp .gt 7, 3) := by decide +kernel
theorem d_Text_isDigit_12 : decode b_Text_isDigit 12 = .ok (.iconst 1, 1) := by decide +kernel
theorem d_Text_isDigit_13 : decode b_Text_isDigit 13 = .ok (.goto 4, 3) := by decide +kernel
theorem d_Text_isDigit_16 : decode b_Text_isDigit 16 = .ok (.iconst 0, 1) := by decide +kernel
theorem d_Text_isDigit_17 : decode b_Text_isDigit 17 = .ok (.ireturn, 1) := by decide +kernel
set_option maxHeartbeats 4000000 in
set_option maxRecDepth 100000 in
/-- isDigit -/
theorem c_Text_isDigit (l : Launch) (dC : Nat → ClassId) (dI : Nat → Nat → Nat) (cB cI cL cZ cC cO : ClassId) (ch : Int32) (sz : Nat)  : Met l y_Text_isDigit w_Text_isDigit ({ frames := 0, cells := 0, slots := 0, locals := 0 }) (va_Pc [.int ch] (wB (dC, dI) cl [(cB, .byte), (cI, .int), (cL, .long), (cZ, .boolean), (cC, .char), (cO, .object "java/lang/Object")] sz [])) (va_Qi (fun (r : Int32) (u : Unit) => r = bI (tx_digit ch)) (fun _ t => wA (dC, dI) cl [(cB, .byte), (cI, .int), (cL, .long), (cZ, .boolean), (cC, .char), (cO, .object "java/lang/Object")] (va_A [] sz) [] t) (va_A [] sz)) 0 0 (va_A [] sz) := by
  refine Met.ofW (cc := b_Text_isDigit) (maxL := 1) (ret := (some ClassFile.FieldType.boolean)) (by decide) rfl ?_
  intro p e s m args below meth c s₁ B hml hv
  obtain ⟨rfl, hsz, hP, hK, hD0, hF⟩ := hv
  have hx := B.exec
  have hb := B.bytes
  have hr := B.returns
  have hts := atoms_spec (ws := w_Text_isDigit) B.pre
  have hts : ∀ w ∈ tb, w.before _ s = true := fun w h => hts w (List.mem_cons_of_mem _ h)
  have hown : s.vm.findClass R_Text = some m.cls := findClass_of_methodNamed B.named
  have hlocks := B.notSynchronized
  subst hsz
  have hD := hD0.self (sz := s.heap.size)
  generalize hAe : va_A [] s.heap.size = A at hD hF ⊢
  have hA : ∀ q : Nat, s.heap.size ≤ q → A q := fun q h => by rw [← hAe]; exact Or.inr h
  have hS : va_S A s.heap s.heap [] := va_S.rf
  have hP : va_P (dC, dI) cl [] s.heap := hP
  have hl := lv_entry ([.int ch]) (n := 1) (Nat.le_of_ble_eq_true rfl)
  rw [lg_entry_eq]
  generalize (lg_sl ([.int ch]) ++ List.replicate (1 - (lg_sl ([.int ch])).length) Slot.unset).toArray = ls at hl ⊢
  have hl : lv_has ls 1 [(0, .int ch)] := hl
  refine lv_iload_n hx hb d_Text_isDigit_0 rfl (lv_at hl 0 rfl) ?_
  refine lv_bipush (v := nI 48) hx hb d_Text_isDigit_1 (by decide) ?_
  refine lv_icmp_lt (tgt := 16) hx hb d_Text_isDigit_3 (by decide) (fun c_1 => ?_) (fun c_1 => ?_)
  · refine lv_iconst (v := nI 0) hx hb d_Text_isDigit_16 (by decide) ?_
    exact wr_z (x := false) hx hb hr hlocks () (congrArg bI (by simp [tx_digit, c_1])) hK hP hD hS d_Text_isDigit_17
  · refine lv_iload_n hx hb d_Text_isDigit_6 rfl (lv_at hl 0 rfl) ?_
    refine lv_bipush (v := nI 57) hx hb d_Text_isDigit_7 (by decide) ?_
    refine lv_icmp_gt (tgt := 16) hx hb d_Text_isDigit_9 (by decide) (fun c_2 => ?_) (fun c_2 => ?_)
    · refine lv_iconst (v := nI 0) hx hb d_Text_isDigit_16 (by decide) ?_
      exact wr_z (x := false) hx hb hr hlocks () (congrArg bI (by simp [tx_digit, c_1, c_2])) hK hP hD hS d_Text_isDigit_17
    · refine lv_iconst (v := nI 1) hx hb d_Text_isDigit_12 (by decide) ?_
      refine lv_goto (tgt := 17) hx hb d_Text_isDigit_13 (by decide) ?_
      exact wr_z (x := true) hx hb hr hlocks () (congrArg bI (by simp [tx_digit, c_1, c_2])) hK hP hD hS d_Text_isDigit_17
theorem d_Text_isWordByte_0 : decode b_Text_isWordByte 0 = .ok (.iload_n 0, 1) := by decide +kernel
theorem d_Text_isWordByte_1 : decode b_Text_isWordByte 1 = .ok (.invokestatic 68, 3) := by decide +kernel
theorem d_Text_isWordByte_4 : decode b_Text_isWordByte 4 = .ok (.ifCond .ne 16, 3) := by decide +kernel
theorem d_Text_isWordByte_7 : decode b_Text_isWordByte 7 = .ok (.iload_n 0, 1) := by decide +kernel
theorem d_Text_isWordByte_8 : decode b_Text_isWordByte 8 = .ok (.invokestatic 55, 3) := by decide +kernel
theorem d_Text_isWordByte_11 : decode b_Text_isWordByte 11 = .ok (.ifCond .ne 9, 3) := by decide +kernel
theorem d_Text_isWordByte_14 : decode b_Text_isWordByte 14 = .ok (.iload_n 0, 1) := by decide +kernel
theorem d_Text_isWordByte_15 : decode b_Text_isWordByte 15 = .ok (.bipush 95, 2) := by decide +kernel
theorem d_Text_isWordByte_17 : decode b_Text_isWordByte 17 = .ok (.if_icmp .ne 7, 3) := by decide +kernel
theorem d_Text_isWordByte_20 : decode b_Text_isWordByte 20 = .ok (.iconst 1, 1) := by decide +kernel
theorem d_Text_isWordByte_21 : decode b_Text_isWordByte 21 = .ok (.goto 4, 3) := by decide +kernel
theorem d_Text_isWordByte_24 : decode b_Text_isWordByte 24 = .ok (.iconst 0, 1) := by decide +kernel
theorem d_Text_isWordByte_25 : decode b_Text_isWordByte 25 = .ok (.ireturn, 1) := by decide +kernel
set_option maxHeartbeats 4000000 in
set_option maxRecDepth 100000 in
/-- isWordByte -/
theorem c_Text_isWordByte (l : Launch) (dC : Nat → ClassId) (dI : Nat → Nat → Nat) (cB cI cL cZ cC cO : ClassId) (ch : Int32) (sz : Nat)  : Met l y_Text_isWordByte w_Text_isWordByte ({ frames := 1, cells := 0, slots := 0, locals := 20 }) (va_Pc [.int ch] (wB (dC, dI) cl [(cB, .byte), (cI, .int), (cL, .long), (cZ, .boolean), (cC, .char), (cO, .object "java/lang/Object")] sz [])) (va_Qi (fun (r : Int32) (u : Unit) => r = bI (tx_wordb ch)) (fun _ t => wA (dC, dI) cl [(cB, .byte), (cI, .int), (cL, .long), (cZ, .boolean), (cC, .char), (cO, .object "java/lang/Object")] (va_A [] sz) [] t) (va_A [] sz)) 0 0 (va_A [] sz) := by
  refine Met.ofW (cc := b_Text_isWordByte) (maxL := 1) (ret := (some ClassFile.FieldType.boolean)) (by decide) rfl ?_
  intro p e s m args below meth c s₁ B hml hv
  obtain ⟨rfl, hsz, hP, hK, hD0, hF⟩ := hv
  have hx := B.exec
  have hb := B.bytes
  have hr := B.returns
  have hts := atoms_spec (ws := w_Text_isWordByte) B.pre
  have hts : ∀ w ∈ tb, w.before _ s = true := fun w h => hts w (List.mem_cons_of_mem _ h)
  have hown : s.vm.findClass R_Text = some m.cls := findClass_of_methodNamed B.named
  have hlocks := B.notSynchronized
  subst hsz
  have hD := hD0.self (sz := s.heap.size)
  generalize hAe : va_A [] s.heap.size = A at hD hF ⊢
  have hA : ∀ q : Nat, s.heap.size ≤ q → A q := fun q h => by rw [← hAe]; exact Or.inr h
  have hS : va_S A s.heap s.heap [] := va_S.rf
  have hP : va_P (dC, dI) cl [] s.heap := hP
  have hl := lv_entry ([.int ch]) (n := 1) (Nat.le_of_ble_eq_true rfl)
  rw [lg_entry_eq]
  generalize (lg_sl ([.int ch]) ++ List.replicate (1 - (lg_sl ([.int ch])).length) Slot.unset).toArray = ls at hl ⊢
  have hl : lv_has ls 1 [(0, .int ch)] := hl
  refine lv_iload_n hx hb d_Text_isWordByte_0 rfl (lv_at hl 0 rfl) ?_
  refine wc_i (wc := []) (wr := []) (va_runS (As := [.int ch]) (rest := []) ⟨hx, hb, hml, hown, hts⟩ (c_Text_isLetter l dC dI cB cI cL cZ cC cO ch _) (va_cwS 1 hts (good_S k_495 k_496 k_2 k_497) rfl rfl rfl (by decide +kernel) ⟨Nat.le_of_ble_eq_true rfl, Nat.le_of_ble_eq_true rfl⟩) (wc_preS hK hP hD hS hA hF [] rfl rfl) rfl rfl hl.1 rfl (lv_room (Nat.le_of_ble_eq_true rfl)) d_Text_isWordByte_1 ⟨Nat.le_of_ble_eq_true rfl, Nat.le_of_ble_eq_true rfl⟩) hP hD hS hA [] [] rfl rfl (by decide) (by simp) (fun r_1 u H locs w_2 hP hD hS => ?_)
  have hP : va_P (dC, dI) cl [] H := hP
  have hD : va_D A [] := hD
  subst w_2
  refine nv_bif_ne (tgt := 20) hx hb d_Text_isWordByte_4 (by decide) (fun c_3 => ?_) (fun c_3 => ?_)
  · refine lv_iconst (v := nI 1) hx hb d_Text_isWordByte_20 (by decide) ?_
    refine lv_goto (tgt := 25) hx hb d_Text_isWordByte_21 (by decide) ?_
    exact wr_z (x := true) hx hb hr hlocks () (congrArg bI (by simp [tx_wordb, c_3])) hK hP hD hS d_Text_isWordByte_25
  · refine lv_iload_n hx hb d_Text_isWordByte_7 rfl (lv_at hl 0 rfl) ?_
    refine wc_i (wc := []) (wr := []) (va_runS (As := [.int ch]) (rest := []) ⟨hx, hb, hml, hown, hts⟩ (c_Text_isDigit l dC dI cB cI cL cZ cC cO ch _) (va_cwS 1 hts (good_S k_498 k_499 k_2 k_500) rfl rfl rfl (by decide +kernel) ⟨Nat.le_of_ble_eq_true rfl, Nat.le_of_ble_eq_true rfl⟩) (wc_preS hK hP hD hS hA hF [] rfl rfl) rfl rfl hl.1 rfl (lv_room (Nat.le_of_ble_eq_true rfl)) d_Text_isWordByte_8 ⟨Nat.le_of_ble_eq_true rfl, Nat.le_of_ble_eq_true rfl⟩) hP hD hS hA [] [] rfl rfl (by decide) (by simp) (fun r_4 u H locs w_5 hP hD hS => ?_)
    have hP : va_P (dC, dI) cl [] H := hP
    have hD : va_D A [] := hD
    subst w_5
    refine nv_bif_ne (tgt := 20) hx hb d_Text_isWordByte_11 (by decide) (fun c_6 => ?_) (fun c_6 => ?_)
    · refine lv_iconst (v := nI 1) hx hb d_Text_isWordByte_20 (by decide) ?_
      refine lv_goto (tgt := 25) hx hb d_Text_isWordByte_21 (by decide) ?_
      exact wr_z (x := true) hx hb hr hlocks () (congrArg bI (by simp [tx_wordb, c_3, c_6])) hK hP hD hS d_Text_isWordByte_25
    · refine lv_iload_n hx hb d_Text_isWordByte_14 rfl (lv_at hl 0 rfl) ?_
      refine lv_bipush (v := nI 95) hx hb d_Text_isWordByte_15 (by decide) ?_
      refine lv_icmp_ne (tgt := 24) hx hb d_Text_isWordByte_17 (by decide) (fun c_7 => ?_) (fun c_7 => ?_)
      · refine lv_iconst (v := nI 0) hx hb d_Text_isWordByte_24 (by decide) ?_
        exact wr_z (x := false) hx hb hr hlocks () (congrArg bI (by simp [tx_wordb, c_3, c_6, c_7])) hK hP hD hS d_Text_isWordByte_25
      · refine lv_iconst (v := nI 1) hx hb d_Text_isWordByte_20 (by decide) ?_
        refine lv_goto (tgt := 25) hx hb d_Text_isWordByte_21 (by decide) ?_
        exact wr_z (x := true) hx hb hr hlocks () (congrArg bI (by simp [tx_wordb, c_3, c_6, c_7])) hK hP hD hS d_Text_isWordByte_25
