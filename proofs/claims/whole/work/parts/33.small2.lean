def sd_has (o : Option Nat) : Bool := !decide (o = none)
def sd_mask (o : Option Nat) (i j n : Nat) : Int32 := ((nI 1 <<< (nI (m_bits o i j n) &&& 31)) - nI 1) <<< (nI i &&& 31)
theorem d_Side_hasRange_0 : decode b_Side_hasRange 0 = .ok (.aload_n 0, 1) := by decide +kernel
theorem d_Side_hasRange_1 : decode b_Side_hasRange 1 = .ok (.getfield 13, 3) := by decide +kernel
theorem d_Side_hasRange_4 : decode b_Side_hasRange 4 = .ok (.iconst (-1), 1) := by decide +kernel
theorem d_Side_hasRange_5 : decode b_Side_hasRange 5 = .ok (.if_icmp .eq 7, 3) := by decide +kernel
theorem d_Side_hasRange_8 : decode b_Side_hasRange 8 = .ok (.iconst 1, 1) := by decide +kernel
theorem d_Side_hasRange_9 : decode b_Side_hasRange 9 = .ok (.goto 4, 3) := by decide +kernel
theorem d_Side_hasRange_12 : decode b_Side_hasRange 12 = .ok (.iconst 0, 1) := by decide +kernel
theorem d_Side_hasRange_13 : decode b_Side_hasRange 13 = .ok (.ireturn, 1) := by decide +kernel
set_option maxHeartbeats 4000000 in
set_option maxRecDepth 100000 in
/-- hasRange -/
theorem c_Side_hasRange (l : Launch) (dC : Nat → ClassId) (dI : Nat → Nat → Nat) (cB cI cL cZ cC cO : ClassId) (qs : Nat) {v0 v1 : Value} (o : Option Nat) (i j : Nat) (sz : Nat) (ho : ∀ z, o = some z → z < 2 ^ 31) : Met l y_Side_hasRange w_Side_hasRange ({ frames := 0, cells := 0, slots := 0, locals := 0 }) (va_Pc [.ref qs] (wB (dC, dI) cl [(cB, .byte), (cI, .int), (cL, .long), (cZ, .boolean), (cC, .char), (cO, .object "java/lang/Object")] sz [(qs, .inr (11, [v0, v1, .int (oI o), .int (nI i), .int (nI j)]))])) (va_Qi (fun (r : Int32) (u : Unit) => r = bI (sd_has o)) (fun _ t => wA (dC, dI) cl [(cB, .byte), (cI, .int), (cL, .long), (cZ, .boolean), (cC, .char), (cO, .object "java/lang/Object")] (va_A [(qs, .inr (11, [v0, v1, .int (oI o), .int (nI i), .int (nI j)]))] sz) [(qs, .inr (11, [v0, v1, .int (oI o), .int (nI i), .int (nI j)]))] t) (va_A [(qs, .inr (11, [v0, v1, .int (oI o), .int (nI i), .int (nI j)]))] sz)) 0 0 (va_A [(qs, .inr (11, [v0, v1, .int (oI o), .int (nI i), .int (nI j)]))] sz) := by
  refine Met.ofW (cc := b_Side_hasRange) (maxL := 1) (ret := (some ClassFile.FieldType.boolean)) (by decide) rfl ?_
  intro p e s m args below meth c s₁ B hml hv
  obtain ⟨rfl, hsz, hP, hK, hD0, hF⟩ := hv
  have hx := B.exec
  have hb := B.bytes
  have hr := B.returns
  have hts := atoms_spec (ws := w_Side_hasRange) B.pre
  have hts : ∀ w ∈ tb, w.before _ s = true := fun w h => hts w (List.mem_cons_of_mem _ h)
  have hown : s.vm.findClass R_Side = some m.cls := findClass_of_methodNamed B.named
  have hlocks := B.notSynchronized
  subst hsz
  have hD := hD0.self (sz := s.heap.size)
  generalize hAe : va_A [(qs, .inr (11, [v0, v1, .int (oI o), .int (nI i), .int (nI j)]))] s.heap.size = A at hD hF ⊢
  have hA : ∀ q : Nat, s.heap.size ≤ q → A q := fun q h => by rw [← hAe]; exact Or.inr h
  have hS : va_S A s.heap s.heap [] := va_S.rf
  have hP : va_P (dC, dI) cl [(qs, .inr (11, [v0, v1, .int (oI o), .int (nI i), .int (nI j)]))] s.heap := hP
  have hl := lv_entry ([.ref qs]) (n := 1) (Nat.le_of_ble_eq_true rfl)
  rw [lg_entry_eq]
  generalize (lg_sl ([.ref qs]) ++ List.replicate (1 - (lg_sl ([.ref qs])).length) Slot.unset).toArray = ls at hl ⊢
  have hl : lv_has ls 1 [(0, .ref qs)] := hl
  refine lv_aload_n hx hb d_Side_hasRange_0 rfl (lv_at hl 0 rfl) ?_
  refine va_get (D := (dC, dI)) (ci := 11) (v := .int (oI o)) (C := R_Side) (T := F_Side) (N := 5) hx hb hts i_Side hown hK hP 0 rfl rfl 2 (by decide) (hts _ k_619) (fun _ h9 => h9) rfl d_Side_hasRange_1 ?_
  refine lv_iconst (v := (-1)) hx hb d_Side_hasRange_4 (by decide) ?_
  refine nv_oicmp_eq (tgt := 12) hx hb ho d_Side_hasRange_5 (by decide) (fun c_1 => ?_) (fun c_1 => ?_)
  · refine lv_iconst (v := nI 0) hx hb d_Side_hasRange_12 (by decide) ?_
    exact wr_z (x := false) hx hb hr hlocks () (congrArg bI (by simp [sd_has, c_1])) hK hP hD hS d_Side_hasRange_13
  · refine lv_iconst (v := nI 1) hx hb d_Side_hasRange_8 (by decide) ?_
    refine lv_goto (tgt := 13) hx hb d_Side_hasRange_9 (by decide) ?_
    exact wr_z (x := true) hx hb hr hlocks () (congrArg bI (by simp [sd_has, c_1])) hK hP hD hS d_Side_hasRange_13
theorem d_Side_fits_0 : decode b_Side_fits 0 = .ok (.aload_n 0, 1) := by decide +kernel
theorem d_Side_fits_1 : decode b_Side_fits 1 = .ok (.invokevirtual 26, 3) := by decide +kernel
theorem d_Side_fits_4 : decode b_Side_fits 4 = .ok (.ifCond .eq 22, 3) := by decide +kernel
theorem d_Side_fits_7 : decode b_Side_fits 7 = .ok (.aload_n 0, 1) := by decide +kernel
theorem d_Side_fits_8 : decode b_Side_fits 8 = .ok (.getfield 16, 3) := by decide +kernel
theorem d_Side_fits_11 : decode b_Side_fits 11 = .ok (.aload_n 0, 1) := by decide +kernel
theorem d_Side_fits_12 : decode b_Side_fits 12 = .ok (.getfield 19, 3) := by decide +kernel
theorem d_Side_fits_15 : decode b_Side_fits 15 = .ok (.if_icmp .gt 15, 3) := by decide +kernel
theorem d_Side_fits_18 : decode b_Side_fits 18 = .ok (.aload_n 0, 1) := by decide +kernel
theorem d_Side_fits_19 : decode b_Side_fits 19 = .ok (.getfield 19, 3) := by decide +kernel
theorem d_Side_fits_22 : decode b_Side_fits 22 = .ok (.iload_n 1, 1) := by decide +kernel
theorem d_Side_fits_23 : decode b_Side_fits 23 = .ok (.if_icmp .ge 7, 3) := by decide +kernel
theorem d_Side_fits_26 : decode b_Side_fits 26 = .ok (.iconst 1, 1) := by decide +kernel
theorem d_Side_fits_27 : decode b_Side_fits 27 = .ok (.goto 4, 3) := by decide +kernel
theorem d_Side_fits_30 : decode b_Side_fits 30 = .ok (.iconst 0, 1) := by decide +kernel
theorem d_Side_fits_31 : decode b_Side_fits 31 = .ok (.ireturn, 1) := by decide +kernel
set_option maxHeartbeats 4000000 in
set_option maxRecDepth 100000 in
/-- fits(n) -/
theorem c_Side_fits (l : Launch) (dC : Nat → ClassId) (dI : Nat → Nat → Nat) (cB cI cL cZ cC cO : ClassId) (qs : Nat) {v0 v1 : Value} (o : Option Nat) (i j : Nat) (n : Nat) (sz : Nat) (ho : ∀ z, o = some z → z < 2 ^ 31) (hi : i < 2 ^ 31) (hj : j < 2 ^ 31) (hn : n < 2 ^ 31) : Met l y_Side_fits w_Side_fits ({ frames := 1, cells := 0, slots := 0, locals := 20 }) (va_Pc [.ref qs, .int (nI n)] (wB (dC, dI) cl [(cB, .byte), (cI, .int), (cL, .long), (cZ, .boolean), (cC, .char), (cO, .object "java/lang/Object")] sz [(qs, .inr (11, [v0, v1, .int (oI o), .int (nI i), .int (nI j)]))])) (va_Qi (fun (r : Int32) (u : Unit) => r = bI (m_fits o i j n)) (fun _ t => wA (dC, dI) cl [(cB, .byte), (cI, .int), (cL, .long), (cZ, .boolean), (cC, .char), (cO, .object "java/lang/Object")] (va_A [(qs, .inr (11, [v0, v1, .int (oI o), .int (nI i), .int (nI j)]))] sz) [(qs, .inr (11, [v0, v1, .int (oI o), .int (nI i), .int (nI j)]))] t) (va_A [(qs, .inr (11, [v0, v1, .int (oI o), .int (nI i), .int (nI j)]))] sz)) 0 0 (va_A [(qs, .inr (11, [v0, v1, .int (oI o), .int (nI i), .int (nI j)]))] sz) := by
  refine Met.ofW (cc := b_Side_fits) (maxL := 2) (ret := (some ClassFile.FieldType.boolean)) (by decide) rfl ?_
  intro p e s m args below meth c s₁ B hml hv
  obtain ⟨rfl, hsz, hP, hK, hD0, hF⟩ := hv
  have hx := B.exec
  have hb := B.bytes
  have hr := B.returns
  have hts := atoms_spec (ws := w_Side_fits) B.pre
  have hts : ∀ w ∈ tb, w.before _ s = true := fun w h => hts w (List.mem_cons_of_mem _ h)
  have hown : s.vm.findClass R_Side = some m.cls := findClass_of_methodNamed B.named
  have hlocks := B.notSynchronized
  subst hsz
  have hD := hD0.self (sz := s.heap.size)
  generalize hAe : va_A [(qs, .inr (11, [v0, v1, .int (oI o), .int (nI i), .int (nI j)]))] s.heap.size = A at hD hF ⊢
  have hA : ∀ q : Nat, s.heap.size ≤ q → A q := fun q h => by rw [← hAe]; exact Or.inr h
  have hS : va_S A s.heap s.heap [] := va_S.rf
  have hP : va_P (dC, dI) cl [(qs, .inr (11, [v0, v1, .int (oI o), .int (nI i), .int (nI j)]))] s.heap := hP
  have hl := lv_entry ([.ref qs, .int (nI n)]) (n := 2) (Nat.le_of_ble_eq_true rfl)
  rw [lg_entry_eq]
  generalize (lg_sl ([.ref qs, .int (nI n)]) ++ List.replicate (2 - (lg_sl ([.ref qs, .int (nI n)])).length) Slot.unset).toArray = ls at hl ⊢
  have hl : lv_has ls 2 [(0, .ref qs), (1, .int (nI n))] := hl
  refine lv_aload_n hx hb d_Side_fits_0 rfl (lv_at hl 0 rfl) ?_
  refine wc_i (wc := [(qs, .inr (11, [v0, v1, .int (oI o), .int (nI i), .int (nI j)]))]) (wr := []) (va_runV (As := []) (rest := []) ⟨hx, hb, hml, hown, hts⟩ (c_Side_hasRange l dC dI cB cI cL cZ cC cO qs o i j _ ho) (cwV 0 hts (good_V k_710 k_711 k_712 k_21 k_713) rfl rfl rfl (by decide +kernel) ⟨Nat.le_of_ble_eq_true rfl, Nat.le_of_ble_eq_true rfl⟩) (wc_preV (k0 := 0) (ci := 11) (r := (R_Side, F_Side, 5)) hK hP hD hS hA hF [0] (by decide) rfl rfl rfl) rfl rfl hl.1 rfl (lv_room (Nat.le_of_ble_eq_true rfl)) d_Side_fits_1 ⟨Nat.le_of_ble_eq_true rfl, Nat.le_of_ble_eq_true rfl⟩) hP hD hS hA [0] [] rfl rfl (by decide) (by decide) (fun r_2 u H locs w_1 hP hD hS => ?_)
  have hP : va_P (dC, dI) cl [(qs, .inr (11, [v0, v1, .int (oI o), .int (nI i), .int (nI j)]))] H := hP
  have hD : va_D A [(qs, .inr (11, [v0, v1, .int (oI o), .int (nI i), .int (nI j)]))] := hD
  subst w_1
  refine nv_bif_eq (tgt := 26) hx hb d_Side_fits_4 (by decide) (fun c_3 => ?_) (fun c_3 => ?_)
  · refine lv_iconst (v := nI 1) hx hb d_Side_fits_26 (by decide) ?_
    refine lv_goto (tgt := 31) hx hb d_Side_fits_27 (by decide) ?_
    exact wr_z (x := true) hx hb hr hlocks () (congrArg bI (by have hh := c_3; simp [sd_has] at hh; unfold m_fits; first | (rw [if_pos hh]; done) | (rw [if_neg hh]; simp; omega))) hK hP hD hS d_Side_fits_31
  · refine lv_aload_n hx hb d_Side_fits_7 rfl (lv_at hl 0 rfl) ?_
    refine va_get (D := (dC, dI)) (ci := 11) (v := .int (nI i)) (C := R_Side) (T := F_Side) (N := 5) hx hb hts i_Side hown hK hP 0 rfl rfl 3 (by decide) (hts _ k_622) (fun _ h9 => h9) rfl d_Side_fits_8 ?_
    refine lv_aload_n hx hb d_Side_fits_11 rfl (lv_at hl 0 rfl) ?_
    refine va_get (D := (dC, dI)) (ci := 11) (v := .int (nI j)) (C := R_Side) (T := F_Side) (N := 5) hx hb hts i_Side hown hK hP 0 rfl rfl 4 (by decide) (hts _ k_625) (fun _ h9 => h9) rfl d_Side_fits_12 ?_
    refine nv_icmp_gt (tgt := 30) hx hb (by omega) (by omega) d_Side_fits_15 (by decide) (fun c_4 => ?_) (fun c_4 => ?_)
    · refine lv_iconst (v := nI 0) hx hb d_Side_fits_30 (by decide) ?_
      exact wr_z (x := false) hx hb hr hlocks () (congrArg bI (by have hh := c_3; simp [sd_has] at hh; unfold m_fits; first | (rw [if_pos hh]; done) | (rw [if_neg hh]; simp; omega))) hK hP hD hS d_Side_fits_31
    · refine lv_aload_n hx hb d_Side_fits_18 rfl (lv_at hl 0 rfl) ?_
      refine va_get (D := (dC, dI)) (ci := 11) (v := .int (nI j)) (C := R_Side) (T := F_Side) (N := 5) hx hb hts i_Side hown hK hP 0 rfl rfl 4 (by decide) (hts _ k_625) (fun _ h9 => h9) rfl d_Side_fits_19 ?_
      refine lv_iload_n hx hb d_Side_fits_22 rfl (lv_at hl 1 rfl) ?_
      refine nv_icmp_ge (tgt := 30) hx hb (by omega) (by omega) d_Side_fits_23 (by decide) (fun c_5 => ?_) (fun c_5 => ?_)
      · refine lv_iconst (v := nI 0) hx hb d_Side_fits_30 (by decide) ?_
        exact wr_z (x := false) hx hb hr hlocks () (congrArg bI (by have hh := c_3; simp [sd_has] at hh; unfold m_fits; first | (rw [if_pos hh]; done) | (rw [if_neg hh]; simp; omega))) hK hP hD hS d_Side_fits_31
      · refine lv_iconst (v := nI 1) hx hb d_Side_fits_26 (by decide) ?_
        refine lv_goto (tgt := 31) hx hb d_Side_fits_27 (by decide) ?_
        exact wr_z (x := true) hx hb hr hlocks () (congrArg bI (by have hh := c_3; simp [sd_has] at hh; unfold m_fits; first | (rw [if_pos hh]; done) | (rw [if_neg hh]; simp; omega))) hK hP hD hS d_Side_fits_31
theorem d_Side_width_0 : decode b_Side_width 0 = .ok (.aload_n 0, 1) := by decide +kernel
theorem d_Side_width_1 : decode b_Side_width 1 = .ok (.invokevirtual 26, 3) := by decide +kernel
theorem d_Side_width_4 : decode b_Side_width 4 = .ok (.ifCond .eq 17, 3) := by decide +kernel
theorem d_Side_width_7 : decode b_Side_width 7 = .ok (.aload_n 0, 1) := by decide +kernel
theorem d_Side_width_8 : decode b_Side_width 8 = .ok (.getfield 19, 3) := by decide +kernel
theorem d_Side_width_11 : decode b_Side_width 11 = .ok (.aload_n 0, 1) := by decide +kernel
theorem d_Side_width_12 : decode b_Side_width 12 = .ok (.getfield 16, 3) := by decide +kernel
theorem d_Side_width_15 : decode b_Side_width 15 = .ok (.isub, 1) := by decide +kernel
theorem d_Side_width_16 : decode b_Side_width 16 = .ok (.iconst 1, 1) := by decide +kernel
theorem d_Side_width_17 : decode b_Side_width 17 = .ok (.iadd, 1) := by decide +kernel
theorem d_Side_width_18 : decode b_Side_width 18 = .ok (.goto 4, 3) := by decide +kernel
theorem d_Side_width_21 : decode b_Side_width 21 = .ok (.iload_n 1, 1) := by decide +kernel
theorem d_Side_width_22 : decode b_Side_width 22 = .ok (.ireturn, 1) := by decide +kernel
set_option maxHeartbeats 4000000 in
set_option maxRecDepth 100000 in
/-- width(n) -/
theorem c_Side_width (l : Launch) (dC : Nat → ClassId) (dI : Nat → Nat → Nat) (cB cI cL cZ cC cO : ClassId) (qs : Nat) {v0 v1 : Value} (o : Option Nat) (i j : Nat) (n : Nat) (sz : Nat) (ho : ∀ z, o = some z → z < 2 ^ 31) (hij : i ≤ j) : Met l y_Side_width w_Side_width ({ frames := 1, cells := 0, slots := 0, locals := 20 }) (va_Pc [.ref qs, .int (nI n)] (wB (dC, dI) cl [(cB, .byte), (cI, .int), (cL, .long), (cZ, .boolean), (cC, .char), (cO, .object "java/lang/Object")] sz [(qs, .inr (11, [v0, v1, .int (oI o), .int (nI i), .int (nI j)]))])) (va_Qi (fun (r : Int32) (u : Unit) => r = nI (m_bits o i j n)) (fun _ t => wA (dC, dI) cl [(cB, .byte), (cI, .int), (cL, .long), (cZ, .boolean), (cC, .char), (cO, .object "java/lang/Object")] (va_A [(qs, .inr (11, [v0, v1, .int (oI o), .int (nI i), .int (nI j)]))] sz) [(qs, .inr (11, [v0, v1, .int (oI o), .int (nI i), .int (nI j)]))] t) (va_A [(qs, .inr (11, [v0, v1, .int (oI o), .int (nI i), .int (nI j)]))] sz)) 0 0 (va_A [(qs, .inr (11, [v0, v1, .int (oI o), .int (nI i), .int (nI j)]))] sz) := by
  refine Met.ofW (cc := b_Side_width) (maxL := 2) (ret := (some ClassFile.FieldType.int)) (by decide) rfl ?_
  intro p e s m args below meth c s₁ B hml hv
  obtain ⟨rfl, hsz, hP, hK, hD0, hF⟩ := hv
  have hx := B.exec
  have hb := B.bytes
  have hr := B.returns
  have hts := atoms_spec (ws := w_Side_width) B.pre
  have hts : ∀ w ∈ tb, w.before _ s = true := fun w h => hts w (List.mem_cons_of_mem _ h)
  have hown : s.vm.findClass R_Side = some m.cls := findClass_of_methodNamed B.named
  have hlocks := B.notSynchronized
  subst hsz
  have hD := hD0.self (sz := s.heap.size)
  generalize hAe : va_A [(qs, .inr (11, [v0, v1, .int (oI o), .int (nI i), .int (nI j)]))] s.heap.size = A at hD hF ⊢
  have hA : ∀ q : Nat, s.heap.size ≤ q → A q := fun q h => by rw [← hAe]; exact Or.inr h
  have hS : va_S A s.heap s.heap [] := va_S.rf
  have hP : va_P (dC, dI) cl [(qs, .inr (11, [v0, v1, .int (oI o), .int (nI i), .int (nI j)]))] s.heap := hP
  have hl := lv_entry ([.ref qs, .int (nI n)]) (n := 2) (Nat.le_of_ble_eq_true rfl)
  rw [lg_entry_eq]
  generalize (lg_sl ([.ref qs, .int (nI n)]) ++ List.replicate (2 - (lg_sl ([.ref qs, .int (nI n)])).length) Slot.unset).toArray = ls at hl ⊢
  have hl : lv_has ls 2 [(0, .ref qs), (1, .int (nI n))] := hl
  refine lv_aload_n hx hb d_Side_width_0 rfl (lv_at hl 0 rfl) ?_
  refine wc_i (wc := [(qs, .inr (11, [v0, v1, .int (oI o), .int (nI i), .int (nI j)]))]) (wr := []) (va_runV (As := []) (rest := []) ⟨hx, hb, hml, hown, hts⟩ (c_Side_hasRange l dC dI cB cI cL cZ cC cO qs o i j _ ho) (cwV 0 hts (good_V k_710 k_711 k_712 k_21 k_713) rfl rfl rfl (by decide +kernel) ⟨Nat.le_of_ble_eq_true rfl, Nat.le_of_ble_eq_true rfl⟩) (wc_preV (k0 := 0) (ci := 11) (r := (R_Side, F_Side, 5)) hK hP hD hS hA hF [0] (by decide) rfl rfl rfl) rfl rfl hl.1 rfl (lv_room (Nat.le_of_ble_eq_true rfl)) d_Side_width_1 ⟨Nat.le_of_ble_eq_true rfl, Nat.le_of_ble_eq_true rfl⟩) hP hD hS hA [0] [] rfl rfl (by decide) (by decide) (fun r_2 u H locs w_1 hP hD hS => ?_)
  have hP : va_P (dC, dI) cl [(qs, .inr (11, [v0, v1, .int (oI o), .int (nI i), .int (nI j)]))] H := hP
  have hD : va_D A [(qs, .inr (11, [v0, v1, .int (oI o), .int (nI i), .int (nI j)]))] := hD
  subst w_1
  refine nv_bif_eq (tgt := 21) hx hb d_Side_width_4 (by decide) (fun c_3 => ?_) (fun c_3 => ?_)
  · refine lv_iload_n hx hb d_Side_width_21 rfl (lv_at hl 1 rfl) ?_
    exact wr_i hx hb hr hlocks () (congrArg nI (by have hh := c_3; simp [sd_has] at hh; unfold m_bits; first | rw [if_pos hh] | rw [if_neg hh])) hK hP hD hS d_Side_width_22
  · refine lv_aload_n hx hb d_Side_width_7 rfl (lv_at hl 0 rfl) ?_
    refine va_get (D := (dC, dI)) (ci := 11) (v := .int (nI j)) (C := R_Side) (T := F_Side) (N := 5) hx hb hts i_Side hown hK hP 0 rfl rfl 4 (by decide) (hts _ k_625) (fun _ h9 => h9) rfl d_Side_width_8 ?_
    refine lv_aload_n hx hb d_Side_width_11 rfl (lv_at hl 0 rfl) ?_
    refine va_get (D := (dC, dI)) (ci := 11) (v := .int (nI i)) (C := R_Side) (T := F_Side) (N := 5) hx hb hts i_Side hown hK hP 0 rfl rfl 3 (by decide) (hts _ k_622) (fun _ h9 => h9) rfl d_Side_width_12 ?_
    refine nv_isub hx hb (by omega) d_Side_width_15 ?_
    refine lv_iconst (v := nI 1) hx hb d_Side_width_16 (by decide) ?_
    refine nv_iadd hx hb d_Side_width_17 ?_
    refine lv_goto (tgt := 22) hx hb d_Side_width_18 (by decide) ?_
    exact wr_i hx hb hr hlocks () (congrArg nI (by have hh := c_3; simp [sd_has] at hh; unfold m_bits; first | rw [if_pos hh] | rw [if_neg hh])) hK hP hD hS d_Side_width_22
theorem d_Side_bitMask_0 : decode b_Side_bitMask 0 = .ok (.iconst 1, 1) := by decide +kernel
theorem d_Side_bitMask_1 : decode b_Side_bitMask 1 = .ok (.aload_n 0, 1) := by decide +kernel
theorem d_Side_bitMask_2 : decode b_Side_bitMask 2 = .ok (.iload_n 1, 1) := by decide +kernel
theorem d_Side_bitMask_3 : decode b_Side_bitMask 3 = .ok (.invokevirtual 30, 3) := by decide +kernel
theorem d_Side_bitMask_6 : decode b_Side_bitMask 6 = .ok (.ishl, 1) := by decide +kernel
theorem d_Side_bitMask_7 : decode b_Side_bitMask 7 = .ok (.iconst 1, 1) := by decide +kernel
theorem d_Side_bitMask_8 : decode b_Side_bitMask 8 = .ok (.isub, 1) := by decide +kernel
theorem d_Side_bitMask_9 : decode b_Side_bitMask 9 = .ok (.aload_n 0, 1) := by decide +kernel
theorem d_Side_bitMask_10 : decode b_Side_bitMask 10 = .ok (.getfield 16, 3) := by decide +kernel
theorem d_Side_bitMask_13 : decode b_Side_bitMask 13 = .ok (.ishl, 1) := by decide +kernel
theorem d_Side_bitMask_14 : decode b_Side_bitMask 14 = .ok (.ireturn, 1) := by decide +kernel
set_option maxHeartbeats 4000000 in
set_option maxRecDepth 100000 in
/-- bitMask(n) -/
theorem c_Side_bitMask (l : Launch) (dC : Nat → ClassId) (dI : Nat → Nat → Nat) (cB cI cL cZ cC cO : ClassId) (qs : Nat) {v0 v1 : Value} (o : Option Nat) (i j : Nat) (n : Nat) (sz : Nat) (ho : ∀ z, o = some z → z < 2 ^ 31) (hij : i ≤ j) : Met l y_Side_bitMask w_Side_bitMask ({ frames := 2, cells := 0, slots := 0, locals := 42 }) (va_Pc [.ref qs, .int (nI n)] (wB (dC, dI) cl [(cB, .byte), (cI, .int), (cL, .long), (cZ, .boolean), (cC, .char), (cO, .object "java/lang/Object")] sz [(qs, .inr (11, [v0, v1, .int (oI o), .int (nI i), .int (nI j)]))])) (va_Qi (fun (r : Int32) (u : Unit) => r = sd_mask o i j n) (fun _ t => wA (dC, dI) cl [(cB, .byte), (cI, .int), (cL, .long), (cZ, .boolean), (cC, .char), (cO, .object "java/lang/Object")] (va_A [(qs, .inr (11, [v0, v1, .int (oI o), .int (nI i), .int (nI j)]))] sz) [(qs, .inr (11, [v0, v1, .int (oI o), .int (nI i), .int (nI j)]))] t) (va_A [(qs, .inr (11, [v0, v1, .int (oI o), .int (nI i), .int (nI j)]))] sz)) 0 0 (va_A [(qs, .inr (11, [v0, v1, .int (oI o), .int (nI i), .int (nI j)]))] sz) := by
  refine Met.ofW (cc := b_Side_bitMask) (maxL := 2) (ret := (some ClassFile.FieldType.int)) (by decide) rfl ?_
  intro p e s m args below meth c s₁ B hml hv
  obtain ⟨rfl, hsz, hP, hK, hD0, hF⟩ := hv
  have hx := B.exec
  have hb := B.bytes
  have hr := B.returns
  have hts := atoms_spec (ws := w_Side_bitMask) B.pre
  have hts : ∀ w ∈ tb, w.before _ s = true := fun w h => hts w (List.mem_cons_of_mem _ h)
  have hown : s.vm.findClass R_Side = some m.cls := findClass_of_methodNamed B.named
  have hlocks := B.notSynchronized
  subst hsz
  have hD := hD0.self (sz := s.heap.size)
  generalize hAe : va_A [(qs, .inr (11, [v0, v1, .int (oI o), .int (nI i), .int (nI j)]))] s.heap.size = A at hD hF ⊢
  have hA : ∀ q : Nat, s.heap.size ≤ q → A q := fun q h => by rw [← hAe]; exact Or.inr h
  have hS : va_S A s.heap s.heap [] := va_S.rf
  have hP : va_P (dC, dI) cl [(qs, .inr (11, [v0, v1, .int (oI o), .int (nI i), .int (nI j)]))] s.heap := hP
  have hl := lv_entry ([.ref qs, .int (nI n)]) (n := 2) (Nat.le_of_ble_eq_true rfl)
  rw [lg_entry_eq]
  generalize (lg_sl ([.ref qs, .int (nI n)]) ++ List.replicate (2 - (lg_sl ([.ref qs, .int (nI n)])).length) Slot.unset).toArray = ls at hl ⊢
  have hl : lv_has ls 2 [(0, .ref qs), (1, .int (nI n))] := hl
  refine lv_iconst (v := nI 1) hx hb d_Side_bitMask_0 (by decide) ?_
  refine lv_aload_n hx hb d_Side_bitMask_1 rfl (lv_at hl 0 rfl) ?_
  refine lv_iload_n hx hb d_Side_bitMask_2 rfl (lv_at hl 1 rfl) ?_
  refine wc_i (wc := [(qs, .inr (11, [v0, v1, .int (oI o), .int (nI i), .int (nI j)]))]) (wr := []) (va_runV (As := [.int (nI n)]) (rest := [.int (nI 1)]) ⟨hx, hb, hml, hown, hts⟩ (c_Side_width l dC dI cB cI cL cZ cC cO qs o i j n _ ho hij) (cwV 1 hts (good_V k_747 k_715 k_716 k_21 k_717) rfl rfl rfl (by decide +kernel) ⟨Nat.le_of_ble_eq_true rfl, Nat.le_of_ble_eq_true rfl⟩) (wc_preV (k0 := 0) (ci := 11) (r := (R_Side, F_Side, 5)) hK hP hD hS hA hF [0] (by decide) rfl rfl rfl) rfl rfl hl.1 rfl (lv_room (Nat.le_of_ble_eq_true rfl)) d_Side_bitMask_3 ⟨Nat.le_of_ble_eq_true rfl, Nat.le_of_ble_eq_true rfl⟩) hP hD hS hA [0] [] rfl rfl (by decide) (by decide) (fun r_2 u H locs w_1 hP hD hS => ?_)
  have hP : va_P (dC, dI) cl [(qs, .inr (11, [v0, v1, .int (oI o), .int (nI i), .int (nI j)]))] H := hP
  have hD : va_D A [(qs, .inr (11, [v0, v1, .int (oI o), .int (nI i), .int (nI j)]))] := hD
  subst w_1
  refine lv_ishl hx hb d_Side_bitMask_6 ?_
  refine lv_iconst (v := nI 1) hx hb d_Side_bitMask_7 (by decide) ?_
  refine lv_isub hx hb d_Side_bitMask_8 ?_
  refine lv_aload_n hx hb d_Side_bitMask_9 rfl (lv_at hl 0 rfl) ?_
  refine va_get (D := (dC, dI)) (ci := 11) (v := .int (nI i)) (C := R_Side) (T := F_Side) (N := 5) hx hb hts i_Side hown hK hP 0 rfl rfl 3 (by decide) (hts _ k_622) (fun _ h9 => h9) rfl d_Side_bitMask_10 ?_
  refine lv_ishl hx hb d_Side_bitMask_13 ?_
  exact wr_i hx hb hr hlocks () rfl hK hP hD hS d_Side_bitMask_14
theorem d_Wire_setWidth_0 : decode b_Wire_setWidth 0 = .ok (.iload_n 1, 1) := by decide +kernel
theorem d_Wire_setWidth_1 : decode b_Wire_setWidth 1 = .ok (.iconst 1, 1) := by decide +kernel
theorem d_Wire_setWidth_2 : decode b_Wire_setWidth 2 = .ok (.if_icmp .lt 9, 3) := by decide +kernel
theorem d_Wire_setWidth_5 : decode b_Wire_setWidth 5 = .ok (.iload_n 1, 1) := by decide +kernel
theorem d_Wire_setWidth_6 : decode b_Wire_setWidth 6 = .ok (.bipush 16, 2) := by decide +kernel
theorem d_Wire_setWidth_8 : decode b_Wire_setWidth 8 = .ok (.if_icmp .le 11, 3) := by decide +kernel
theorem d_Wire_setWidth_11 : decode b_Wire_setWidth 11 = .ok (.aload_n 0, 1) := by decide +kernel
theorem d_Wire_setWidth_12 : decode b_Wire_setWidth 12 = .ok (.iload_n 2, 1) := by decide +kernel
theorem d_Wire_setWidth_13 : decode b_Wire_setWidth 13 = .ok (.putfield 15, 3) := by decide +kernel
theorem d_Wire_setWidth_16 : decode b_Wire_setWidth 16 = .ok (.goto 8, 3) := by decide +kernel
theorem d_Wire_setWidth_19 : decode b_Wire_setWidth 19 = .ok (.aload_n 0, 1) := by decide +kernel
theorem d_Wire_setWidth_20 : decode b_Wire_setWidth 20 = .ok (.iload_n 1, 1) := by decide +kernel
theorem d_Wire_setWidth_21 : decode b_Wire_setWidth 21 = .ok (.putfield 7, 3) := by decide +kernel
theorem d_Wire_setWidth_24 : decode b_Wire_setWidth 24 = .ok (.return_, 1) := by decide +kernel
set_option maxHeartbeats 4000000 in
set_option maxRecDepth 100000 in
/-- setWidth(n, y) -/
theorem c_Wire_setWidth (l : Launch) (dC : Nat → ClassId) (dI : Nat → Nat → Nat) (cB cI cL cZ cC cO : ClassId) (qw : Nat) {v0 v1 v4 v5 v6 : Value} (v2 v3 : Value) (n : Nat) (y : Int32) (sz : Nat) (hn : n < 2 ^ 31) : Met l y_Wire_setWidth w_Wire_setWidth ({ frames := 0, cells := 0, slots := 0, locals := 0 }) (va_Pc [.ref qw, .int (nI n), .int y] (wB (dC, dI) cl [(cB, .byte), (cI, .int), (cL, .long), (cZ, .boolean), (cC, .char), (cO, .object "java/lang/Object")] sz [(qw, .inr (8, [v0, v1, v2, v3, v4, v5, v6]))])) (va_Qv (fun (u : Value × Value) => u = if n < 1 ∨ 16 < n then (v2, .int y) else (.int (nI n), v3)) (fun u t => wA (dC, dI) cl [(cB, .byte), (cI, .int), (cL, .long), (cZ, .boolean), (cC, .char), (cO, .object "java/lang/Object")] (va_A [(qw, .inr (8, [v0, v1, v2, v3, v4, v5, v6]))] sz) [(qw, .inr (8, [v0, v1, u.1, u.2, v4, v5, v6]))] t) (va_A [(qw, .inr (8, [v0, v1, v2, v3, v4, v5, v6]))] sz)) 0 0 (va_A [(qw, .inr (8, [v0, v1, v2, v3, v4, v5, v6]))] sz) := by
  refine Met.ofW (cc := b_Wire_setWidth) (maxL := 3) (ret := none) (by decide) rfl ?_
  intro p e s m args below meth c s₁ B hml hv
  obtain ⟨rfl, hsz, hP, hK, hD0, hF⟩ := hv
  have hx := B.exec
  have hb := B.bytes
  have hr := B.returns
  have hts := atoms_spec (ws := w_Wire_setWidth) B.pre
  have hts : ∀ w ∈ tb, w.before _ s = true := fun w h => hts w (List.mem_cons_of_mem _ h)
  have hown : s.vm.findClass R_Wire = some m.cls := findClass_of_methodNamed B.named
  have hlocks := B.notSynchronized
  subst hsz
  have hD := hD0.self (sz := s.heap.size)
  generalize hAe : va_A [(qw, .inr (8, [v0, v1, v2, v3, v4, v5, v6]))] s.heap.size = A at hD hF ⊢
  have hA : ∀ q : Nat, s.heap.size ≤ q → A q := fun q h => by rw [← hAe]; exact Or.inr h
  have hS : va_S A s.heap s.heap [] := va_S.rf
  have hP : va_P (dC, dI) cl [(qw, .inr (8, [v0, v1, v2, v3, v4, v5, v6]))] s.heap := hP
  have hl := lv_entry ([.ref qw, .int (nI n), .int y]) (n := 3) (Nat.le_of_ble_eq_true rfl)
  rw [lg_entry_eq]
  generalize (lg_sl ([.ref qw, .int (nI n), .int y]) ++ List.replicate (3 - (lg_sl ([.ref qw, .int (nI n), .int y])).length) Slot.unset).toArray = ls at hl ⊢
  have hl : lv_has ls 3 [(0, .ref qw), (1, .int (nI n)), (2, .int y)] := hl
  refine lv_iload_n hx hb d_Wire_setWidth_0 rfl (lv_at hl 1 rfl) ?_
  refine lv_iconst (v := nI 1) hx hb d_Wire_setWidth_1 (by decide) ?_
  refine nv_icmp_lt (tgt := 11) hx hb (by omega) (by omega) d_Wire_setWidth_2 (by decide) (fun c_1 => ?_) (fun c_1 => ?_)
  · refine lv_aload_n hx hb d_Wire_setWidth_11 rfl (lv_at hl 0 rfl) ?_
    refine lv_iload_n hx hb d_Wire_setWidth_12 rfl (lv_at hl 2 rfl) ?_
    refine va_put (D := (dC, dI)) (ci := 8) (v := .int y) (ty := .int) (C := R_Wire) (T := F_Wire) (N := 7) hx hb hts i_Wire t_Wire t_Wire_ok n_Wire hown hK hP hD hS 0 rfl rfl 3 (by decide) (hts _ k_225) (fun _ h9 => h9) rfl (by decide +kernel) rfl rfl (Nat.le_of_ble_eq_true rfl) d_Wire_setWidth_13 (fun H locs hP hD hS => ?_)
    have hP : va_P (dC, dI) cl [(qw, .inr (8, [v0, v1, v2, .int y, v4, v5, v6]))] H := hP
    have hD : va_D A [(qw, .inr (8, [v0, v1, v2, .int y, v4, v5, v6]))] := hD
    refine lv_goto (tgt := 24) hx hb d_Wire_setWidth_16 (by decide) ?_
    exact wr_v hx hb hr hlocks (v2, .int y) (by first | rw [if_pos (by omega)] | rw [if_neg (by omega)]) hK hP hD hS d_Wire_setWidth_24
  · refine lv_iload_n hx hb d_Wire_setWidth_5 rfl (lv_at hl 1 rfl) ?_
    refine lv_bipush (v := nI 16) hx hb d_Wire_setWidth_6 (by decide) ?_
    refine nv_icmp_le (tgt := 19) hx hb (by omega) (by omega) d_Wire_setWidth_8 (by decide) (fun c_2 => ?_) (fun c_2 => ?_)
    · refine lv_aload_n hx hb d_Wire_setWidth_19 rfl (lv_at hl 0 rfl) ?_
      refine lv_iload_n hx hb d_Wire_setWidth_20 rfl (lv_at hl 1 rfl) ?_
      refine va_put (D := (dC, dI)) (ci := 8) (v := .int (nI n)) (ty := .int) (C := R_Wire) (T := F_Wire) (N := 7) hx hb hts i_Wire t_Wire t_Wire_ok n_Wire hown hK hP hD hS 0 rfl rfl 2 (by decide) (hts _ k_221) (fun _ h9 => h9) rfl (by decide +kernel) rfl rfl (Nat.le_of_ble_eq_true rfl) d_Wire_setWidth_21 (fun H locs hP hD hS => ?_)
      have hP : va_P (dC, dI) cl [(qw, .inr (8, [v0, v1, .int (nI n), v3, v4, v5, v6]))] H := hP
      have hD : va_D A [(qw, .inr (8, [v0, v1, .int (nI n), v3, v4, v5, v6]))] := hD
      exact wr_v hx hb hr hlocks (.int (nI n), v3) (by first | rw [if_pos (by omega)] | rw [if_neg (by omega)]) hK hP hD hS d_Wire_setWidth_24
    · refine lv_aload_n hx hb d_Wire_setWidth_11 rfl (lv_at hl 0 rfl) ?_
      refine lv_iload_n hx hb d_Wire_setWidth_12 rfl (lv_at hl 2 rfl) ?_
      refine va_put (D := (dC, dI)) (ci := 8) (v := .int y) (ty := .int) (C := R_Wire) (T := F_Wire) (N := 7) hx hb hts i_Wire t_Wire t_Wire_ok n_Wire hown hK hP hD hS 0 rfl rfl 3 (by decide) (hts _ k_225) (fun _ h9 => h9) rfl (by decide +kernel) rfl rfl (Nat.le_of_ble_eq_true rfl) d_Wire_setWidth_13 (fun H locs hP hD hS => ?_)
      have hP : va_P (dC, dI) cl [(qw, .inr (8, [v0, v1, v2, .int y, v4, v5, v6]))] H := hP
      have hD : va_D A [(qw, .inr (8, [v0, v1, v2, .int y, v4, v5, v6]))] := hD
      refine lv_goto (tgt := 24) hx hb d_Wire_setWidth_16 (by decide) ?_
      exact wr_v hx hb hr hlocks (v2, .int y) (by first | rw [if_pos (by omega)] | rw [if_neg (by omega)]) hK hP hD hS d_Wire_setWidth_24
def wt_ok (fk : Nat → Int32) (a : Nat) (x : Int32) : Bool := decide (fk a = x) && decide (a < 1000)
def wn_ok (fk : Nat → Int32) (a : Nat) (y : Bool) : Bool := decide (fk a = nI 3) && y
def wt_to (fk fp : Nat → Int32) (a : Nat) (x : Int32) (v0 v1 : Value) : Nat × Value × Value := if wt_ok fk a x = true then (a + 1, v0, v1) else (a, .int (if fk a = nI 2 then nI 2 else nI 1), .int (fp a))
def wn_to (fk fp : Nat → Int32) (a : Nat) (y : Bool) (v0 v1 : Value) : Value × Value := if wn_ok fk a y = true then (v0, v1) else (.int (if fk a = nI 3 ∨ fk a = nI 2 then nI 2 else nI 1), .int (fp a))
theorem d_Parser_sees_0 : decode b_Parser_sees 0 = .ok (.aload_n 0, 1) := by decide +kernel
theorem d_Parser_sees_1 : decode b_Parser_sees 1 = .ok (.getfield 20, 3) := by decide +kernel
theorem d_Parser_sees_4 : decode b_Parser_sees 4 = .ok (.getfield 170, 3) := by decide +kernel
theorem d_Parser_sees_7 : decode b_Parser_sees 7 = .ok (.aload_n 0, 1) := by decide +kernel
theorem d_Parser_sees_8 : decode b_Parser_sees 8 = .ok (.getfield 16, 3) := by decide +kernel
theorem d_Parser_sees_11 : decode b_Parser_sees 11 = .ok (.iaload, 1) := by decide +kernel
theorem d_Parser_sees_12 : decode b_Parser_sees 12 = .ok (.iload_n 1, 1) := by decide +kernel
theorem d_Parser_sees_13 : decode b_Parser_sees 13 = .ok (.if_icmp .ne 7, 3) := by decide +kernel
theorem d_Parser_sees_16 : decode b_Parser_sees 16 = .ok (.iconst 1, 1) := by decide +kernel
theorem d_Parser_sees_17 : decode b_Parser_sees 17 = .ok (.goto 4, 3) := by decide +kernel
theorem d_Parser_sees_20 : decode b_Parser_sees 20 = .ok (.iconst 0, 1) := by decide +kernel
theorem d_Parser_sees_21 : decode b_Parser_sees 21 = .ok (.ireturn, 1) := by decide +kernel
set_option maxHeartbeats 4000000 in
set_option maxRecDepth 100000 in
/-- sees(x) -/
theorem c_Parser_sees (l : Launch) (dC : Nat → ClassId) (dI : Nat → Nat → Nat) (cB cI cL cZ cC cO : ClassId) (qp qc qt qf qk ql : Nat) {w0 w1 w4 w5 w6 : Value} (fk : Nat → Int32) (a : Nat) (x : Int32) (sz : Nat) (ha : a ≤ 1000) : Met l y_Parser_sees w_Parser_sees ({ frames := 0, cells := 0, slots := 0, locals := 0 }) (va_Pc [.ref qp, .int x] (wB (dC, dI) cl [(cB, .byte), (cI, .int), (cL, .long), (cZ, .boolean), (cC, .char), (cO, .object "java/lang/Object")] sz [(qp, .inr (3, [.ref qc, .ref qt, .ref qf, .int (nI a)])), (qt, .inr (1, [w0, w1, .ref qk, .ref ql, w4, w5, w6])), (qk, .inl (cI, 1001, .inl fk))])) (va_Qi (fun (r : Int32) (u : Unit) => r = bI (decide (fk a = x))) (fun _ t => wA (dC, dI) cl [(cB, .byte), (cI, .int), (cL, .long), (cZ, .boolean), (cC, .char), (cO, .object "java/lang/Object")] (va_A [(qp, .inr (3, [.ref qc, .ref qt, .ref qf, .int (nI a)])), (qt, .inr (1, [w0, w1, .ref qk, .ref ql, w4, w5, w6])), (qk, .inl (cI, 1001, .inl fk))] sz) [(qp, .inr (3, [.ref qc, .ref qt, .ref qf, .int (nI a)])), (qt, .inr (1, [w0, w1, .ref qk, .ref ql, w4, w5, w6])), (qk, .inl (cI, 1001, .inl fk))] t) (va_A [(qp, .inr (3, [.ref qc, .ref qt, .ref qf, .int (nI a)])), (qt, .inr (1, [w0, w1, .ref qk, .ref ql, w4, w5, w6])), (qk, .inl (cI, 1001, .inl fk))] sz)) 0 0 (va_A [(qp, .inr (3, [.ref qc, .ref qt, .ref qf, .int (nI a)])), (qt, .inr (1, [w0, w1, .ref qk, .ref ql, w4, w5, w6])), (qk, .inl (cI, 1001, .inl fk))] sz) := by
  refine Met.ofW (cc := b_Parser_sees) (maxL := 2) (ret := (some ClassFile.FieldType.boolean)) (by decide) rfl ?_
  intro p e s m args below meth c s₁ B hml hv
  obtain ⟨rfl, hsz, hP, hK, hD0, hF⟩ := hv
  have hx := B.exec
  have hb := B.bytes
  have hr := B.returns
  have hts := atoms_spec (ws := w_Parser_sees) B.pre
  have hts : ∀ w ∈ tb, w.before _ s = true := fun w h => hts w (List.mem_cons_of_mem _ h)
  have hown : s.vm.findClass R_Parser = some m.cls := findClass_of_methodNamed B.named
  have hlocks := B.notSynchronized
  subst hsz
  have hD := hD0.self (sz := s.heap.size)
  generalize hAe : va_A [(qp, .inr (3, [.ref qc, .ref qt, .ref qf, .int (nI a)])), (qt, .inr (1, [w0, w1, .ref qk, .ref ql, w4, w5, w6])), (qk, .inl (cI, 1001, .inl fk))] s.heap.size = A at hD hF ⊢
  have hA : ∀ q : Nat, s.heap.size ≤ q → A q := fun q h => by rw [← hAe]; exact Or.inr h
  have hS : va_S A s.heap s.heap [] := va_S.rf
  have hP : va_P (dC, dI) cl [(qp, .inr (3, [.ref qc, .ref qt, .ref qf, .int (nI a)])), (qt, .inr (1, [w0, w1, .ref qk, .ref ql, w4, w5, w6])), (qk, .inl (cI, 1001, .inl fk))] s.heap := hP
  have hl := lv_entry ([.ref qp, .int x]) (n := 2) (Nat.le_of_ble_eq_true rfl)
  rw [lg_entry_eq]
  generalize (lg_sl ([.ref qp, .int x]) ++ List.replicate (2 - (lg_sl ([.ref qp, .int x])).length) Slot.unset).toArray = ls at hl ⊢
  have hl : lv_has ls 2 [(0, .ref qp), (1, .int x)] := hl
  refine lv_aload_n hx hb d_Parser_sees_0 rfl (lv_at hl 0 rfl) ?_
  refine va_get (D := (dC, dI)) (ci := 3) (v := .ref qt) (C := R_Parser) (T := F_Parser) (N := 4) hx hb hts i_Parser hown hK hP 0 rfl rfl 1 (by decide) (hts _ k_117) (fun _ h9 => h9) rfl d_Parser_sees_1 ?_
  refine va_get (D := (dC, dI)) (ci := 1) (v := .ref qk) (C := R_Text) (T := F_Text) (N := 7) hx hb hts i_Text hown hK hP 1 rfl rfl 2 (by decide) (hts _ k_41) (fun _ h9 => h9) rfl d_Parser_sees_4 ?_
  refine lv_aload_n hx hb d_Parser_sees_7 rfl (lv_at hl 0 rfl) ?_
  refine va_get (D := (dC, dI)) (ci := 3) (v := .int (nI a)) (C := R_Parser) (T := F_Parser) (N := 4) hx hb hts i_Parser hown hK hP 0 rfl rfl 3 (by decide) (hts _ k_119) (fun _ h9 => h9) rfl d_Parser_sees_8 ?_
  refine nv_iald hx hb hK hP 2 1 rfl rfl (by omega) (by decide) d_Parser_sees_11 ?_
  refine lv_iload_n hx hb d_Parser_sees_12 rfl (lv_at hl 1 rfl) ?_
  refine lv_icmp_ne (tgt := 20) hx hb d_Parser_sees_13 (by decide) (fun c_1 => ?_) (fun c_1 => ?_)
  · refine lv_iconst (v := nI 0) hx hb d_Parser_sees_20 (by decide) ?_
    exact wr_z (x := false) hx hb hr hlocks () (congrArg bI (by simp [c_1])) hK hP hD hS d_Parser_sees_21
  · refine lv_iconst (v := nI 1) hx hb d_Parser_sees_16 (by decide) ?_
    refine lv_goto (tgt := 21) hx hb d_Parser_sees_17 (by decide) ?_
    exact wr_z (x := true) hx hb hr hlocks () (congrArg bI (by simp [c_1])) hK hP hD hS d_Parser_sees_21
theorem d_Parser_takes_0 : decode b_Parser_takes 0 = .ok (.aload_n 0, 1) := by decide +kernel
theorem d_Parser_takes_1 : decode b_Parser_takes 1 = .ok (.getfield 20, 3) := by decide +kernel
theorem d_Parser_takes_4 : decode b_Parser_takes 4 = .ok (.getfield 170, 3) := by decide +kernel
theorem d_Parser_takes_7 : decode b_Parser_takes 7 = .ok (.aload_n 0, 1) := by decide +kernel
theorem d_Parser_takes_8 : decode b_Parser_takes 8 = .ok (.getfield 16, 3) := by decide +kernel
theorem d_Parser_takes_11 : decode b_Parser_takes 11 = .ok (.iaload, 1) := by decide +kernel
theorem d_Parser_takes_12 : decode b_Parser_takes 12 = .ok (.iload_n 1, 1) := by decide +kernel
theorem d_Parser_takes_13 : decode b_Parser_takes 13 = .ok (.if_icmp .ne 13, 3) := by decide +kernel
theorem d_Parser_takes_16 : decode b_Parser_takes 16 = .ok (.aload_n 0, 1) := by decide +kernel
theorem d_Parser_takes_17 : decode b_Parser_takes 17 = .ok (.getfield 16, 3) := by decide +kernel
theorem d_Parser_takes_20 : decode b_Parser_takes 20 = .ok (.sipush 1000, 3) := by decide +kernel
theorem d_Parser_takes_23 : decode b_Parser_takes 23 = .ok (.if_icmp .lt 5, 3) := by decide +kernel
theorem d_Parser_takes_26 : decode b_Parser_takes 26 = .ok (.iconst 0, 1) := by decide +kernel
theorem d_Parser_takes_27 : decode b_Parser_takes 27 = .ok (.ireturn, 1) := by decide +kernel
theorem d_Parser_takes_28 : decode b_Parser_takes 28 = .ok (.aload_n 0, 1) := by decide +kernel
theorem d_Parser_takes_29 : decode b_Parser_takes 29 = .ok (.dup, 1) := by decide +kernel
theorem d_Parser_takes_30 : decode b_Parser_takes 30 = .ok (.getfield 16, 3) := by decide +kernel
theorem d_Parser_takes_33 : decode b_Parser_takes 33 = .ok (.iconst 1, 1) := by decide +kernel
theorem d_Parser_takes_34 : decode b_Parser_takes 34 = .ok (.iadd, 1) := by decide +kernel
theorem d_Parser_takes_35 : decode b_Parser_takes 35 = .ok (.putfield 16, 3) := by decide +kernel
theorem d_Parser_takes_38 : decode b_Parser_takes 38 = .ok (.iconst 1, 1) := by decide +kernel
theorem d_Parser_takes_39 : decode b_Parser_takes 39 = .ok (.ireturn, 1) := by decide +kernel
set_option maxHeartbeats 4000000 in
set_option maxRecDepth 100000 in
/-- takes(x) -/
theorem c_Parser_takes (l : Launch) (dC : Nat → ClassId) (dI : Nat → Nat → Nat) (cB cI cL cZ cC cO : ClassId) (qp qc qt qf qk ql : Nat) {w0 w1 w4 w5 w6 : Value} (fk : Nat → Int32) (a : Nat) (x : Int32) (sz : Nat) (ha : a ≤ 1000) : Met l y_Parser_takes w_Parser_takes ({ frames := 0, cells := 0, slots := 0, locals := 0 }) (va_Pc [.ref qp, .int x] (wB (dC, dI) cl [(cB, .byte), (cI, .int), (cL, .long), (cZ, .boolean), (cC, .char), (cO, .object "java/lang/Object")] sz [(qp, .inr (3, [.ref qc, .ref qt, .ref qf, .int (nI a)])), (qt, .inr (1, [w0, w1, .ref qk, .ref ql, w4, w5, w6])), (qk, .inl (cI, 1001, .inl fk))])) (va_Qi (fun (r : Int32) (u : Nat) => r = bI (wt_ok fk a x) ∧ u = if wt_ok fk a x = true then a + 1 else a) (fun u t => wA (dC, dI) cl [(cB, .byte), (cI, .int), (cL, .long), (cZ, .boolean), (cC, .char), (cO, .object "java/lang/Object")] (va_A [(qp, .inr (3, [.ref qc, .ref qt, .ref qf, .int (nI a)])), (qt, .inr (1, [w0, w1, .ref qk, .ref ql, w4, w5, w6])), (qk, .inl (cI, 1001, .inl fk))] sz) [(qp, .inr (3, [.ref qc, .ref qt, .ref qf, .int (nI u)])), (qt, .inr (1, [w0, w1, .ref qk, .ref ql, w4, w5, w6])), (qk, .inl (cI, 1001, .inl fk))] t) (va_A [(qp, .inr (3, [.ref qc, .ref qt, .ref qf, .int (nI a)])), (qt, .inr (1, [w0, w1, .ref qk, .ref ql, w4, w5, w6])), (qk, .inl (cI, 1001, .inl fk))] sz)) 0 0 (va_A [(qp, .inr (3, [.ref qc, .ref qt, .ref qf, .int (nI a)])), (qt, .inr (1, [w0, w1, .ref qk, .ref ql, w4, w5, w6])), (qk, .inl (cI, 1001, .inl fk))] sz) := by
  refine Met.ofW (cc := b_Parser_takes) (maxL := 2) (ret := (some ClassFile.FieldType.boolean)) (by decide) rfl ?_
  intro p e s m args below meth c s₁ B hml hv
  obtain ⟨rfl, hsz, hP, hK, hD0, hF⟩ := hv
  have hx := B.exec
  have hb := B.bytes
  have hr := B.returns
  have hts := atoms_spec (ws := w_Parser_takes) B.pre
  have hts : ∀ w ∈ tb, w.before _ s = true := fun w h => hts w (List.mem_cons_of_mem _ h)
  have hown : s.vm.findClass R_Parser = some m.cls := findClass_of_methodNamed B.named
  have hlocks := B.notSynchronized
  subst hsz
  have hD := hD0.self (sz := s.heap.size)
  generalize hAe : va_A [(qp, .inr (3, [.ref qc, .ref qt, .ref qf, .int (nI a)])), (qt, .inr (1, [w0, w1, .ref qk, .ref ql, w4, w5, w6])), (qk, .inl (cI, 1001, .inl fk))] s.heap.size = A at hD hF ⊢
  have hA : ∀ q : Nat, s.heap.size ≤ q → A q := fun q h => by rw [← hAe]; exact Or.inr h
  have hS : va_S A s.heap s.heap [] := va_S.rf
  have hP : va_P (dC, dI) cl [(qp, .inr (3, [.ref qc, .ref qt, .ref qf, .int (nI a)])), (qt, .inr (1, [w0, w1, .ref qk, .ref ql, w4, w5, w6])), (qk, .inl (cI, 1001, .inl fk))] s.heap := hP
  have hl := lv_entry ([.ref qp, .int x]) (n := 2) (Nat.le_of_ble_eq_true rfl)
  rw [lg_entry_eq]
  generalize (lg_sl ([.ref qp, .int x]) ++ List.replicate (2 - (lg_sl ([.ref qp, .int x])).length) Slot.unset).toArray = ls at hl ⊢
  have hl : lv_has ls 2 [(0, .ref qp), (1, .int x)] := hl
  refine lv_aload_n hx hb d_Parser_takes_0 rfl (lv_at hl 0 rfl) ?_
  refine va_get (D := (dC, dI)) (ci := 3) (v := .ref qt) (C := R_Parser) (T := F_Parser) (N := 4) hx hb hts i_Parser hown hK hP 0 rfl rfl 1 (by decide) (hts _ k_117) (fun _ h9 => h9) rfl d_Parser_takes_1 ?_
  refine va_get (D := (dC, dI)) (ci := 1) (v := .ref qk) (C := R_Text) (T := F_Text) (N := 7) hx hb hts i_Text hown hK hP 1 rfl rfl 2 (by decide) (hts _ k_41) (fun _ h9 => h9) rfl d_Parser_takes_4 ?_
  refine lv_aload_n hx hb d_Parser_takes_7 rfl (lv_at hl 0 rfl) ?_
  refine va_get (D := (dC, dI)) (ci := 3) (v := .int (nI a)) (C := R_Parser) (T := F_Parser) (N := 4) hx hb hts i_Parser hown hK hP 0 rfl rfl 3 (by decide) (hts _ k_119) (fun _ h9 => h9) rfl d_Parser_takes_8 ?_
  refine nv_iald hx hb hK hP 2 1 rfl rfl (by omega) (by decide) d_Parser_takes_11 ?_
  refine lv_iload_n hx hb d_Parser_takes_12 rfl (lv_at hl 1 rfl) ?_
  refine lv_icmp_ne (tgt := 26) hx hb d_Parser_takes_13 (by decide) (fun c_1 => ?_) (fun c_1 => ?_)
  · refine lv_iconst (v := nI 0) hx hb d_Parser_takes_26 (by decide) ?_
    have hok : wt_ok fk a x = false := by first | (simp [wt_ok, c_1]; done) | (simp [wt_ok]; omega)
    exact wr_z (x := false) hx hb hr hlocks (a) ⟨congrArg bI hok.symm, by rw [hok]; rfl⟩ hK hP hD hS d_Parser_takes_27
  · refine lv_aload_n hx hb d_Parser_takes_16 rfl (lv_at hl 0 rfl) ?_
    refine va_get (D := (dC, dI)) (ci := 3) (v := .int (nI a)) (C := R_Parser) (T := F_Parser) (N := 4) hx hb hts i_Parser hown hK hP 0 rfl rfl 3 (by decide) (hts _ k_119) (fun _ h9 => h9) rfl d_Parser_takes_17 ?_
    refine lv_sipush (v := nI 1000) hx hb d_Parser_takes_20 (by decide) ?_
    refine nv_icmp_lt (tgt := 28) hx hb (by omega) (by omega) d_Parser_takes_23 (by decide) (fun c_2 => ?_) (fun c_2 => ?_)
    · refine lv_aload_n hx hb d_Parser_takes_28 rfl (lv_at hl 0 rfl) ?_
      refine lv_dup hx hb d_Parser_takes_29 rfl ?_
      refine va_get (D := (dC, dI)) (ci := 3) (v := .int (nI a)) (C := R_Parser) (T := F_Parser) (N := 4) hx hb hts i_Parser hown hK hP 0 rfl rfl 3 (by decide) (hts _ k_119) (fun _ h9 => h9) rfl d_Parser_takes_30 ?_
      refine lv_iconst (v := nI 1) hx hb d_Parser_takes_33 (by decide) ?_
      refine nv_iadd hx hb d_Parser_takes_34 ?_
      refine va_put (D := (dC, dI)) (ci := 3) (v := .int (nI (a + 1))) (ty := .int) (C := R_Parser) (T := F_Parser) (N := 4) hx hb hts i_Parser t_Parser t_Parser_ok n_Parser hown hK hP hD hS 0 rfl rfl 3 (by decide) (hts _ k_119) (fun _ h9 => h9) rfl (by decide +kernel) rfl rfl (Nat.le_of_ble_eq_true rfl) d_Parser_takes_35 (fun H locs hP hD hS => ?_)
      have hP : va_P (dC, dI) cl [(qp, .inr (3, [.ref qc, .ref qt, .ref qf, .int (nI (a + 1))])), (qt, .inr (1, [w0, w1, .ref qk, .ref ql, w4, w5, w6])), (qk, .inl (cI, 1001, .inl fk))] H := hP
      have hD : va_D A [(qp, .inr (3, [.ref qc, .ref qt, .ref qf, .int (nI (a + 1))])), (qt, .inr (1, [w0, w1, .ref qk, .ref ql, w4, w5, w6])), (qk, .inl (cI, 1001, .inl fk))] := hD
      refine lv_iconst (v := nI 1) hx hb d_Parser_takes_38 (by decide) ?_
      have hok : wt_ok fk a x = true := by first | (simp [wt_ok, c_1, c_2]; done) | (simp [wt_ok]; omega)
      exact wr_z (x := true) hx hb hr hlocks (a + 1) ⟨congrArg bI hok.symm, by rw [hok]; rfl⟩ hK hP hD hS d_Parser_takes_39
    · refine lv_iconst (v := nI 0) hx hb d_Parser_takes_26 (by decide) ?_
      have hok : wt_ok fk a x = false := by first | (simp [wt_ok, c_1, c_2]; done) | (simp [wt_ok]; omega)
      exact wr_z (x := false) hx hb hr hlocks (a) ⟨congrArg bI hok.symm, by rw [hok]; rfl⟩ hK hP hD hS d_Parser_takes_27
theorem d_Parser_want_0 : decode b_Parser_want 0 = .ok (.aload_n 0, 1) := by decide +kernel
theorem d_Parser_want_1 : decode b_Parser_want 1 = .ok (.getfield 20, 3) := by decide +kernel
theorem d_Parser_want_4 : decode b_Parser_want 4 = .ok (.getfield 170, 3) := by decide +kernel
theorem d_Parser_want_7 : decode b_Parser_want 7 = .ok (.aload_n 0, 1) := by decide +kernel
theorem d_Parser_want_8 : decode b_Parser_want 8 = .ok (.getfield 16, 3) := by decide +kernel
theorem d_Parser_want_11 : decode b_Parser_want 11 = .ok (.iaload, 1) := by decide +kernel
theorem d_Parser_want_12 : decode b_Parser_want 12 = .ok (.iload_n 1, 1) := by decide +kernel
theorem d_Parser_want_13 : decode b_Parser_want 13 = .ok (.if_icmp .ne 25, 3) := by decide +kernel
theorem d_Parser_want_16 : decode b_Parser_want 16 = .ok (.aload_n 0, 1) := by decide +kernel
theorem d_Parser_want_17 : decode b_Parser_want 17 = .ok (.getfield 16, 3) := by decide +kernel
theorem d_Parser_want_20 : decode b_Parser_want 20 = .ok (.sipush 1000, 3) := by decide +kernel
theorem d_Parser_want_23 : decode b_Parser_want 23 = .ok (.if_icmp .ge 15, 3) := by decide +kernel
theorem d_Parser_want_26 : decode b_Parser_want 26 = .ok (.aload_n 0, 1) := by decide +kernel
theorem d_Parser_want_27 : decode b_Parser_want 27 = .ok (.dup, 1) := by decide +kernel
theorem d_Parser_want_28 : decode b_Parser_want 28 = .ok (.getfield 16, 3) := by decide +kernel
theorem d_Parser_want_31 : decode b_Parser_want 31 = .ok (.iconst 1, 1) := by decide +kernel
theorem d_Parser_want_32 : decode b_Parser_want 32 = .ok (.iadd, 1) := by decide +kernel
theorem d_Parser_want_33 : decode b_Parser_want 33 = .ok (.putfield 16, 3) := by decide +kernel
theorem d_Parser_want_36 : decode b_Parser_want 36 = .ok (.iconst 1, 1) := by decide +kernel
theorem d_Parser_want_37 : decode b_Parser_want 37 = .ok (.ireturn, 1) := by decide +kernel
theorem d_Parser_want_38 : decode b_Parser_want 38 = .ok (.aload_n 0, 1) := by decide +kernel
theorem d_Parser_want_39 : decode b_Parser_want 39 = .ok (.getfield 24, 3) := by decide +kernel
theorem d_Parser_want_42 : decode b_Parser_want 42 = .ok (.aload_n 0, 1) := by decide +kernel
theorem d_Parser_want_43 : decode b_Parser_want 43 = .ok (.getfield 20, 3) := by decide +kernel
theorem d_Parser_want_46 : decode b_Parser_want 46 = .ok (.getfield 170, 3) := by decide +kernel
theorem d_Parser_want_49 : decode b_Parser_want 49 = .ok (.aload_n 0, 1) := by decide +kernel
theorem d_Parser_want_50 : decode b_Parser_want 50 = .ok (.getfield 16, 3) := by decide +kernel
theorem d_Parser_want_53 : decode b_Parser_want 53 = .ok (.iaload, 1) := by decide +kernel
theorem d_Parser_want_54 : decode b_Parser_want 54 = .ok (.iconst 2, 1) := by decide +kernel
theorem d_Parser_want_55 : decode b_Parser_want 55 = .ok (.if_icmp .ne 7, 3) := by decide +kernel
theorem d_Parser_want_58 : decode b_Parser_want 58 = .ok (.iconst 2, 1) := by decide +kernel
theorem d_Parser_want_59 : decode b_Parser_want 59 = .ok (.goto 4, 3) := by decide +kernel
theorem d_Parser_want_62 : decode b_Parser_want 62 = .ok (.iconst 1, 1) := by decide +kernel
theorem d_Parser_want_63 : decode b_Parser_want 63 = .ok (.aload_n 0, 1) := by decide +kernel
theorem d_Parser_want_64 : decode b_Parser_want 64 = .ok (.getfield 20, 3) := by decide +kernel
theorem d_Parser_want_67 : decode b_Parser_want 67 = .ok (.getfield 96, 3) := by decide +kernel
theorem d_Parser_want_70 : decode b_Parser_want 70 = .ok (.aload_n 0, 1) := by decide +kernel
theorem d_Parser_want_71 : decode b_Parser_want 71 = .ok (.getfield 16, 3) := by decide +kernel
theorem d_Parser_want_74 : decode b_Parser_want 74 = .ok (.iaload, 1) := by decide +kernel
theorem d_Parser_want_75 : decode b_Parser_want 75 = .ok (.invokevirtual 150, 3) := by decide +kernel
theorem d_Parser_want_78 : decode b_Parser_want 78 = .ok (.ireturn, 1) := by decide +kernel
set_option maxHeartbeats 4000000 in
set_option maxRecDepth 100000 in
/-- want(x) -/
theorem c_Parser_want (l : Launch) (dC : Nat → ClassId) (dI : Nat → Nat → Nat) (cB cI cL cZ cC cO : ClassId) (qp qc qt qf qk ql : Nat) {w0 w1 w4 w5 w6 : Value} (v0 v1 : Value) (fk fp : Nat → Int32) (a : Nat) (x : Int32) (sz : Nat) (ha : a ≤ 1000) : Met l y_Parser_want w_Parser_want ({ frames := 1, cells := 0, slots := 0, locals := 25 }) (va_Pc [.ref qp, .int x] (wB (dC, dI) cl [(cB, .byte), (cI, .int), (cL, .long), (cZ, .boolean), (cC, .char), (cO, .object "java/lang/Object")] sz [(qp, .inr (3, [.ref qc, .ref qt, .ref qf, .int (nI a)])), (qt, .inr (1, [w0, w1, .ref qk, .ref ql, w4, w5, w6])), (qk, .inl (cI, 1001, .inl fk)), (ql, .inl (cI, 1001, .inl fp)), (qf, .inr (2, [v0, v1]))])) (va_Qi (fun (r : Int32) (u : Nat × Value × Value) => r = bI (wt_ok fk a x) ∧ u = wt_to fk fp a x v0 v1) (fun u t => wA (dC, dI) cl [(cB, .byte), (cI, .int), (cL, .long), (cZ, .boolean), (cC, .char), (cO, .object "java/lang/Object")] (va_A [(qp, .inr (3, [.ref qc, .ref qt, .ref qf, .int (nI a)])), (qt, .inr (1, [w0, w1, .ref qk, .ref ql, w4, w5, w6])), (qk, .inl (cI, 1001, .inl fk)), (ql, .inl (cI, 1001, .inl fp)), (qf, .inr (2, [v0, v1]))] sz) [(qp, .inr (3, [.ref qc, .ref qt, .ref qf, .int (nI u.1)])), (qt, .inr (1, [w0, w1, .ref qk, .ref ql, w4, w5, w6])), (qk, .inl (cI, 1001, .inl fk)), (ql, .inl (cI, 1001, .inl fp)), (qf, .inr (2, [u.2.1, u.2.2]))] t) (va_A [(qp, .inr (3, [.ref qc, .ref qt, .ref qf, .int (nI a)])), (qt, .inr (1, [w0, w1, .ref qk, .ref ql, w4, w5, w6])), (qk, .inl (cI, 1001, .inl fk)), (ql, .inl (cI, 1001, .inl fp)), (qf, .inr (2, [v0, v1]))] sz)) 0 0 (va_A [(qp, .inr (3, [.ref qc, .ref qt, .ref qf, .int (nI a)])), (qt, .inr (1, [w0, w1, .ref qk, .ref ql, w4, w5, w6])), (qk, .inl (cI, 1001, .inl fk)), (ql, .inl (cI, 1001, .inl fp)), (qf, .inr (2, [v0, v1]))] sz) := by
  refine Met.ofW (cc := b_Parser_want) (maxL := 2) (ret := (some ClassFile.FieldType.boolean)) (by decide) rfl ?_
  intro p e s m args below meth c s₁ B hml hv
  obtain ⟨rfl, hsz, hP, hK, hD0, hF⟩ := hv
  have hx := B.exec
  have hb := B.bytes
  have hr := B.returns
  have hts := atoms_spec (ws := w_Parser_want) B.pre
  have hts : ∀ w ∈ tb, w.before _ s = true := fun w h => hts w (List.mem_cons_of_mem _ h)
  have hown : s.vm.findClass R_Parser = some m.cls := findClass_of_methodNamed B.named
  have hlocks := B.notSynchronized
  subst hsz
  have hD := hD0.self (sz := s.heap.size)
  generalize hAe : va_A [(qp, .inr (3, [.ref qc, .ref qt, .ref qf, .int (nI a)])), (qt, .inr (1, [w0, w1, .ref qk, .ref ql, w4, w5, w6])), (qk, .inl (cI, 1001, .inl fk)), (ql, .inl (cI, 1001, .inl fp)), (qf, .inr (2, [v0, v1]))] s.heap.size = A at hD hF ⊢
  have hA : ∀ q : Nat, s.heap.size ≤ q → A q := fun q h => by rw [← hAe]; exact Or.inr h
  have hS : va_S A s.heap s.heap [] := va_S.rf
  have hP : va_P (dC, dI) cl [(qp, .inr (3, [.ref qc, .ref qt, .ref qf, .int (nI a)])), (qt, .inr (1, [w0, w1, .ref qk, .ref ql, w4, w5, w6])), (qk, .inl (cI, 1001, .inl fk)), (ql, .inl (cI, 1001, .inl fp)), (qf, .inr (2, [v0, v1]))] s.heap := hP
  have hl := lv_entry ([.ref qp, .int x]) (n := 2) (Nat.le_of_ble_eq_true rfl)
  rw [lg_entry_eq]
  generalize (lg_sl ([.ref qp, .int x]) ++ List.replicate (2 - (lg_sl ([.ref qp, .int x])).length) Slot.unset).toArray = ls at hl ⊢
  have hl : lv_has ls 2 [(0, .ref qp), (1, .int x)] := hl
  refine lv_aload_n hx hb d_Parser_want_0 rfl (lv_at hl 0 rfl) ?_
  refine va_get (D := (dC, dI)) (ci := 3) (v := .ref qt) (C := R_Parser) (T := F_Parser) (N := 4) hx hb hts i_Parser hown hK hP 0 rfl rfl 1 (by decide) (hts _ k_117) (fun _ h9 => h9) rfl d_Parser_want_1 ?_
  refine va_get (D := (dC, dI)) (ci := 1) (v := .ref qk) (C := R_Text) (T := F_Text) (N := 7) hx hb hts i_Text hown hK hP 1 rfl rfl 2 (by decide) (hts _ k_41) (fun _ h9 => h9) rfl d_Parser_want_4 ?_
  refine lv_aload_n hx hb d_Parser_want_7 rfl (lv_at hl 0 rfl) ?_
  refine va_get (D := (dC, dI)) (ci := 3) (v := .int (nI a)) (C := R_Parser) (T := F_Parser) (N := 4) hx hb hts i_Parser hown hK hP 0 rfl rfl 3 (by decide) (hts _ k_119) (fun _ h9 => h9) rfl d_Parser_want_8 ?_
  refine nv_iald hx hb hK hP 2 1 rfl rfl (by omega) (by decide) d_Parser_want_11 ?_
  refine lv_iload_n hx hb d_Parser_want_12 rfl (lv_at hl 1 rfl) ?_
  refine lv_icmp_ne (tgt := 38) hx hb d_Parser_want_13 (by decide) (fun c_1 => ?_) (fun c_1 => ?_)
  · refine lv_aload_n hx hb d_Parser_want_38 rfl (lv_at hl 0 rfl) ?_
    refine va_get (D := (dC, dI)) (ci := 3) (v := .ref qf) (C := R_Parser) (T := F_Parser) (N := 4) hx hb hts i_Parser hown hK hP 0 rfl rfl 2 (by decide) (hts _ k_118) (fun _ h9 => h9) rfl d_Parser_want_39 ?_
    refine lv_aload_n hx hb d_Parser_want_42 rfl (lv_at hl 0 rfl) ?_
    refine va_get (D := (dC, dI)) (ci := 3) (v := .ref qt) (C := R_Parser) (T := F_Parser) (N := 4) hx hb hts i_Parser hown hK hP 0 rfl rfl 1 (by decide) (hts _ k_117) (fun _ h9 => h9) rfl d_Parser_want_43 ?_
    refine va_get (D := (dC, dI)) (ci := 1) (v := .ref qk) (C := R_Text) (T := F_Text) (N := 7) hx hb hts i_Text hown hK hP 1 rfl rfl 2 (by decide) (hts _ k_41) (fun _ h9 => h9) rfl d_Parser_want_46 ?_
    refine lv_aload_n hx hb d_Parser_want_49 rfl (lv_at hl 0 rfl) ?_
    refine va_get (D := (dC, dI)) (ci := 3) (v := .int (nI a)) (C := R_Parser) (T := F_Parser) (N := 4) hx hb hts i_Parser hown hK hP 0 rfl rfl 3 (by decide) (hts _ k_119) (fun _ h9 => h9) rfl d_Parser_want_50 ?_
    refine nv_iald hx hb hK hP 2 1 rfl rfl (by omega) (by decide) d_Parser_want_53 ?_
    refine lv_iconst (v := nI 2) hx hb d_Parser_want_54 (by decide) ?_
    refine lv_icmp_ne (tgt := 62) hx hb d_Parser_want_55 (by decide) (fun c_2 => ?_) (fun c_2 => ?_)
    · refine lv_iconst (v := nI 1) hx hb d_Parser_want_62 (by decide) ?_
      refine lv_aload_n hx hb d_Parser_want_63 rfl (lv_at hl 0 rfl) ?_
      refine va_get (D := (dC, dI)) (ci := 3) (v := .ref qt) (C := R_Parser) (T := F_Parser) (N := 4) hx hb hts i_Parser hown hK hP 0 rfl rfl 1 (by decide) (hts _ k_117) (fun _ h9 => h9) rfl d_Parser_want_64 ?_
      refine va_get (D := (dC, dI)) (ci := 1) (v := .ref ql) (C := R_Text) (T := F_Text) (N := 7) hx hb hts i_Text hown hK hP 1 rfl rfl 3 (by decide) (hts _ k_43) (fun _ h9 => h9) rfl d_Parser_want_67 ?_
      refine lv_aload_n hx hb d_Parser_want_70 rfl (lv_at hl 0 rfl) ?_
      refine va_get (D := (dC, dI)) (ci := 3) (v := .int (nI a)) (C := R_Parser) (T := F_Parser) (N := 4) hx hb hts i_Parser hown hK hP 0 rfl rfl 3 (by decide) (hts _ k_119) (fun _ h9 => h9) rfl d_Parser_want_71 ?_
      refine nv_iald hx hb hK hP 3 1 rfl rfl (by omega) (by decide) d_Parser_want_74 ?_
      refine wc_i (wc := [(qf, .inr (2, [v0, v1]))]) (wr := [(qp, .inr (3, [.ref qc, .ref qt, .ref qf, .int (nI a)])), (qt, .inr (1, [w0, w1, .ref qk, .ref ql, w4, w5, w6])), (qk, .inl (cI, 1001, .inl fk)), (ql, .inl (cI, 1001, .inl fp))]) (va_runV (As := [.int (nI 1), .int (fp a)]) (rest := []) ⟨hx, hb, hml, hown, hts⟩ (c_Fault_note l dC dI cB cI cL cZ cC cO qf (nI 1) (fp a) _ ) (cwV 2 hts (good_V k_533 k_534 k_535 k_3 k_536) rfl rfl rfl (by decide +kernel) ⟨Nat.le_of_ble_eq_true rfl, Nat.le_of_ble_eq_true rfl⟩) (wc_preV (k0 := 4) (ci := 2) (r := (R_Fault, F_Fault, 2)) hK hP hD hS hA hF [4] (by decide) rfl rfl rfl) rfl rfl hl.1 rfl (lv_room (Nat.le_of_ble_eq_true rfl)) d_Parser_want_75 ⟨Nat.le_of_ble_eq_true rfl, Nat.le_of_ble_eq_true rfl⟩) hP hD hS hA [4] [0, 1, 2, 3] rfl rfl (by decide) (by decide) (fun r_4 u H locs w_3 hP hD hS => ?_)
      have hP : va_P (dC, dI) cl [(qp, .inr (3, [.ref qc, .ref qt, .ref qf, .int (nI a)])), (qt, .inr (1, [w0, w1, .ref qk, .ref ql, w4, w5, w6])), (qk, .inl (cI, 1001, .inl fk)), (ql, .inl (cI, 1001, .inl fp)), (qf, .inr (2, [.int (nI 1), .int (fp a)]))] H := hP
      have hD : va_D A [(qp, .inr (3, [.ref qc, .ref qt, .ref qf, .int (nI a)])), (qt, .inr (1, [w0, w1, .ref qk, .ref ql, w4, w5, w6])), (qk, .inl (cI, 1001, .inl fk)), (ql, .inl (cI, 1001, .inl fp)), (qf, .inr (2, [.int (nI 1), .int (fp a)]))] := hD
      subst w_3
      have hok : wt_ok fk a x = false := by first | (simp [wt_ok, c_1, c_2]; done) | (simp [wt_ok, c_1]; done) | (simp [wt_ok]; omega)
      exact wr_z (x := false) hx hb hr hlocks (a, .int (nI 1), .int (fp a)) ⟨congrArg bI hok.symm, by unfold wt_to; rw [if_neg (by rw [hok]; decide)]; first | rw [if_pos c_2] | rw [if_neg c_2]⟩ hK hP hD hS d_Parser_want_78
    · refine lv_iconst (v := nI 2) hx hb d_Parser_want_58 (by decide) ?_
      refine lv_goto (tgt := 63) hx hb d_Parser_want_59 (by decide) ?_
      refine lv_aload_n hx hb d_Parser_want_63 rfl (lv_at hl 0 rfl) ?_
      refine va_get (D := (dC, dI)) (ci := 3) (v := .ref qt) (C := R_Parser) (T := F_Parser) (N := 4) hx hb hts i_Parser hown hK hP 0 rfl rfl 1 (by decide) (hts _ k_117) (fun _ h9 => h9) rfl d_Parser_want_64 ?_
      refine va_get (D := (dC, dI)) (ci := 1) (v := .ref ql) (C := R_Text) (T := F_Text) (N := 7) hx hb hts i_Text hown hK hP 1 rfl rfl 3 (by decide) (hts _ k_43) (fun _ h9 => h9) rfl d_Parser_want_67 ?_
      refine lv_aload_n hx hb d_Parser_want_70 rfl (lv_at hl 0 rfl) ?_
      refine va_get (D := (dC, dI)) (ci := 3) (v := .int (nI a)) (C := R_Parser) (T := F_Parser) (N := 4) hx hb hts i_Parser hown hK hP 0 rfl rfl 3 (by decide) (hts _ k_119) (fun _ h9 => h9) rfl d_Parser_want_71 ?_
      refine nv_iald hx hb hK hP 3 1 rfl rfl (by omega) (by decide) d_Parser_want_74 ?_
      refine wc_i (wc := [(qf, .inr (2, [v0, v1]))]) (wr := [(qp, .inr (3, [.ref qc, .ref qt, .ref qf, .int (nI a)])), (qt, .inr (1, [w0, w1, .ref qk, .ref ql, w4, w5, w6])), (qk, .inl (cI, 1001, .inl fk)), (ql, .inl (cI, 1001, .inl fp))]) (va_runV (As := [.int (nI 2), .int (fp a)]) (rest := []) ⟨hx, hb, hml, hown, hts⟩ (c_Fault_note l dC dI cB cI cL cZ cC cO qf (nI 2) (fp a) _ ) (cwV 2 hts (good_V k_533 k_534 k_535 k_3 k_536) rfl rfl rfl (by decide +kernel) ⟨Nat.le_of_ble_eq_true rfl, Nat.le_of_ble_eq_true rfl⟩) (wc_preV (k0 := 4) (ci := 2) (r := (R_Fault, F_Fault, 2)) hK hP hD hS hA hF [4] (by decide) rfl rfl rfl) rfl rfl hl.1 rfl (lv_room (Nat.le_of_ble_eq_true rfl)) d_Parser_want_75 ⟨Nat.le_of_ble_eq_true rfl, Nat.le_of_ble_eq_true rfl⟩) hP hD hS hA [4] [0, 1, 2, 3] rfl rfl (by decide) (by decide) (fun r_6 u H locs w_5 hP hD hS => ?_)
      have hP : va_P (dC, dI) cl [(qp, .inr (3, [.ref qc, .ref qt, .ref qf, .int (nI a)])), (qt, .inr (1, [w0, w1, .ref qk, .ref ql, w4, w5, w6])), (qk, .inl (cI, 1001, .inl fk)), (ql, .inl (cI, 1001, .inl fp)), (qf, .inr (2, [.int (nI 2), .int (fp a)]))] H := hP
      have hD : va_D A [(qp, .inr (3, [.ref qc, .ref qt, .ref qf, .int (nI a)])), (qt, .inr (1, [w0, w1, .ref qk, .ref ql, w4, w5, w6])), (qk, .inl (cI, 1001, .inl fk)), (ql, .inl (cI, 1001, .inl fp)), (qf, .inr (2, [.int (nI 2), .int (fp a)]))] := hD
      subst w_5
      have hok : wt_ok fk a x = false := by first | (simp [wt_ok, c_1, c_2]; done) | (simp [wt_ok, c_1]; done) | (simp [wt_ok]; omega)
      exact wr_z (x := false) hx hb hr hlocks (a, .int (nI 2), .int (fp a)) ⟨congrArg bI hok.symm, by unfold wt_to; rw [if_neg (by rw [hok]; decide)]; first | rw [if_pos c_2] | rw [if_neg c_2]⟩ hK hP hD hS d_Parser_want_78
  · refine lv_aload_n hx hb d_Parser_want_16 rfl (lv_at hl 0 rfl) ?_
    refine va_get (D := (dC, dI)) (ci := 3) (v := .int (nI a)) (C := R_Parser) (T := F_Parser) (N := 4) hx hb hts i_Parser hown hK hP 0 rfl rfl 3 (by decide) (hts _ k_119) (fun _ h9 => h9) rfl d_Parser_want_17 ?_
    refine lv_sipush (v := nI 1000) hx hb d_Parser_want_20 (by decide) ?_
    refine nv_icmp_ge (tgt := 38) hx hb (by omega) (by omega) d_Parser_want_23 (by decide) (fun c_7 => ?_) (fun c_7 => ?_)
    · refine lv_aload_n hx hb d_Parser_want_38 rfl (lv_at hl 0 rfl) ?_
      refine va_get (D := (dC, dI)) (ci := 3) (v := .ref qf) (C := R_Parser) (T := F_Parser) (N := 4) hx hb hts i_Parser hown hK hP 0 rfl rfl 2 (by decide) (hts _ k_118) (fun _ h9 => h9) rfl d_Parser_want_39 ?_
      refine lv_aload_n hx hb d_Parser_want_42 rfl (lv_at hl 0 rfl) ?_
      refine va_get (D := (dC, dI)) (ci := 3) (v := .ref qt) (C := R_Parser) (T := F_Parser) (N := 4) hx hb hts i_Parser hown hK hP 0 rfl rfl 1 (by decide) (hts _ k_117) (fun _ h9 => h9) rfl d_Parser_want_43 ?_
      refine va_get (D := (dC, dI)) (ci := 1) (v := .ref qk) (C := R_Text) (T := F_Text) (N := 7) hx hb hts i_Text hown hK hP 1 rfl rfl 2 (by decide) (hts _ k_41) (fun _ h9 => h9) rfl d_Parser_want_46 ?_
      refine lv_aload_n hx hb d_Parser_want_49 rfl (lv_at hl 0 rfl) ?_
      refine va_get (D := (dC, dI)) (ci := 3) (v := .int (nI a)) (C := R_Parser) (T := F_Parser) (N := 4) hx hb hts i_Parser hown hK hP 0 rfl rfl 3 (by decide) (hts _ k_119) (fun _ h9 => h9) rfl d_Parser_want_50 ?_
      refine nv_iald hx hb hK hP 2 1 rfl rfl (by omega) (by decide) d_Parser_want_53 ?_
      refine lv_iconst (v := nI 2) hx hb d_Parser_want_54 (by decide) ?_
      refine lv_icmp_ne (tgt := 62) hx hb d_Parser_want_55 (by decide) (fun c_8 => ?_) (fun c_8 => ?_)
      · refine lv_iconst (v := nI 1) hx hb d_Parser_want_62 (by decide) ?_
        refine lv_aload_n hx hb d_Parser_want_63 rfl (lv_at hl 0 rfl) ?_
        refine va_get (D := (dC, dI)) (ci := 3) (v := .ref qt) (C := R_Parser) (T := F_Parser) (N := 4) hx hb hts i_Parser hown hK hP 0 rfl rfl 1 (by decide) (hts _ k_117) (fun _ h9 => h9) rfl d_Parser_want_64 ?_
        refine va_get (D := (dC, dI)) (ci := 1) (v := .ref ql) (C := R_Text) (T := F_Text) (N := 7) hx hb hts i_Text hown hK hP 1 rfl rfl 3 (by decide) (hts _ k_43) (fun _ h9 => h9) rfl d_Parser_want_67 ?_
        refine lv_aload_n hx hb d_Parser_want_70 rfl (lv_at hl 0 rfl) ?_
        refine va_get (D := (dC, dI)) (ci := 3) (v := .int (nI a)) (C := R_Parser) (T := F_Parser) (N := 4) hx hb hts i_Parser hown hK hP 0 rfl rfl 3 (by decide) (hts _ k_119) (fun _ h9 => h9) rfl d_Parser_want_71 ?_
        refine nv_iald hx hb hK hP 3 1 rfl rfl (by omega) (by decide) d_Parser_want_74 ?_
        refine wc_i (wc := [(qf, .inr (2, [v0, v1]))]) (wr := [(qp, .inr (3, [.ref qc, .ref qt, .ref qf, .int (nI a)])), (qt, .inr (1, [w0, w1, .ref qk, .ref ql, w4, w5, w6])), (qk, .inl (cI, 1001, .inl fk)), (ql, .inl (cI, 1001, .inl fp))]) (va_runV (As := [.int (nI 1), .int (fp a)]) (rest := []) ⟨hx, hb, hml, hown, hts⟩ (c_Fault_note l dC dI cB cI cL cZ cC cO qf (nI 1) (fp a) _ ) (cwV 2 hts (good_V k_533 k_534 k_535 k_3 k_536) rfl rfl rfl (by decide +kernel) ⟨Nat.le_of_ble_eq_true rfl, Nat.le_of_ble_eq_true rfl⟩) (wc_preV (k0 := 4) (ci := 2) (r := (R_Fault, F_Fault, 2)) hK hP hD hS hA hF [4] (by decide) rfl rfl rfl) rfl rfl hl.1 rfl (lv_room (Nat.le_of_ble_eq_true rfl)) d_Parser_want_75 ⟨Nat.le_of_ble_eq_true rfl, Nat.le_of_ble_eq_true rfl⟩) hP hD hS hA [4] [0, 1, 2, 3] rfl rfl (by decide) (by decide) (fun r_10 u H locs w_9 hP hD hS => ?_)
        have hP : va_P (dC, dI) cl [(qp, .inr (3, [.ref qc, .ref qt, .ref qf, .int (nI a)])), (qt, .inr (1, [w0, w1, .ref qk, .ref ql, w4, w5, w6])), (qk, .inl (cI, 1001, .inl fk)), (ql, .inl (cI, 1001, .inl fp)), (qf, .inr (2, [.int (nI 1), .int (fp a)]))] H := hP
        have hD : va_D A [(qp, .inr (3, [.ref qc, .ref qt, .ref qf, .int (nI a)])), (qt, .inr (1, [w0, w1, .ref qk, .ref ql, w4, w5, w6])), (qk, .inl (cI, 1001, .inl fk)), (ql, .inl (cI, 1001, .inl fp)), (qf, .inr (2, [.int (nI 1), .int (fp a)]))] := hD
        subst w_9
        have hok : wt_ok fk a x = false := by first | (simp [wt_ok, c_1, c_7]; done) | (simp [wt_ok, c_1]; done) | (simp [wt_ok]; omega)
        exact wr_z (x := false) hx hb hr hlocks (a, .int (nI 1), .int (fp a)) ⟨congrArg bI hok.symm, by unfold wt_to; rw [if_neg (by rw [hok]; decide)]; first | rw [if_pos c_8] | rw [if_neg c_8]⟩ hK hP hD hS d_Parser_want_78
      · refine lv_iconst (v := nI 2) hx hb d_Parser_want_58 (by decide) ?_
        refine lv_goto (tgt := 63) hx hb d_Parser_want_59 (by decide) ?_
        refine lv_aload_n hx hb d_Parser_want_63 rfl (lv_at hl 0 rfl) ?_
        refine va_get (D := (dC, dI)) (ci := 3) (v := .ref qt) (C := R_Parser) (T := F_Parser) (N := 4) hx hb hts i_Parser hown hK hP 0 rfl rfl 1 (by decide) (hts _ k_117) (fun _ h9 => h9) rfl d_Parser_want_64 ?_
        refine va_get (D := (dC, dI)) (ci := 1) (v := .ref ql) (C := R_Text) (T := F_Text) (N := 7) hx hb hts i_Text hown hK hP 1 rfl rfl 3 (by decide) (hts _ k_43) (fun _ h9 => h9) rfl d_Parser_want_67 ?_
        refine lv_aload_n hx hb d_Parser_want_70 rfl (lv_at hl 0 rfl) ?_
        refine va_get (D := (dC, dI)) (ci := 3) (v := .int (nI a)) (C := R_Parser) (T := F_Parser) (N := 4) hx hb hts i_Parser hown hK hP 0 rfl rfl 3 (by decide) (hts _ k_119) (fun _ h9 => h9) rfl d_Parser_want_71 ?_
        refine nv_iald hx hb hK hP 3 1 rfl rfl (by omega) (by decide) d_Parser_want_74 ?_
        refine wc_i (wc := [(qf, .inr (2, [v0, v1]))]) (wr := [(qp, .inr (3, [.ref qc, .ref qt, .ref qf, .int (nI a)])), (qt, .inr (1, [w0, w1, .ref qk, .ref ql, w4, w5, w6])), (qk, .inl (cI, 1001, .inl fk)), (ql, .inl (cI, 1001, .inl fp))]) (va_runV (As := [.int (nI 2), .int (fp a)]) (rest := []) ⟨hx, hb, hml, hown, hts⟩ (c_Fault_note l dC dI cB cI cL cZ cC cO qf (nI 2) (fp a) _ ) (cwV 2 hts (good_V k_533 k_534 k_535 k_3 k_536) rfl rfl rfl (by decide +kernel) ⟨Nat.le_of_ble_eq_true rfl, Nat.le_of_ble_eq_true rfl⟩) (wc_preV (k0 := 4) (ci := 2) (r := (R_Fault, F_Fault, 2)) hK hP hD hS hA hF [4] (by decide) rfl rfl rfl) rfl rfl hl.1 rfl (lv_room (Nat.le_of_ble_eq_true rfl)) d_Parser_want_75 ⟨Nat.le_of_ble_eq_true rfl, Nat.le_of_ble_eq_true rfl⟩) hP hD hS hA [4] [0, 1, 2, 3] rfl rfl (by decide) (by decide) (fun r_12 u H locs w_11 hP hD hS => ?_)
        have hP : va_P (dC, dI) cl [(qp, .inr (3, [.ref qc, .ref qt, .ref qf, .int (nI a)])), (qt, .inr (1, [w0, w1, .ref qk, .ref ql, w4, w5, w6])), (qk, .inl (cI, 1001, .inl fk)), (ql, .inl (cI, 1001, .inl fp)), (qf, .inr (2, [.int (nI 2), .int (fp a)]))] H := hP
        have hD : va_D A [(qp, .inr (3, [.ref qc, .ref qt, .ref qf, .int (nI a)])), (qt, .inr (1, [w0, w1, .ref qk, .ref ql, w4, w5, w6])), (qk, .inl (cI, 1001, .inl fk)), (ql, .inl (cI, 1001, .inl fp)), (qf, .inr (2, [.int (nI 2), .int (fp a)]))] := hD
        subst w_11
        have hok : wt_ok fk a x = false := by first | (simp [wt_ok, c_1, c_7]; done) | (simp [wt_ok, c_1]; done) | (simp [wt_ok]; omega)
        exact wr_z (x := false) hx hb hr hlocks (a, .int (nI 2), .int (fp a)) ⟨congrArg bI hok.symm, by unfold wt_to; rw [if_neg (by rw [hok]; decide)]; first | rw [if_pos c_8] | rw [if_neg c_8]⟩ hK hP hD hS d_Parser_want_78
    · refine lv_aload_n hx hb d_Parser_want_26 rfl (lv_at hl 0 rfl) ?_
      refine lv_dup hx hb d_Parser_want_27 rfl ?_
      refine va_get (D := (dC, dI)) (ci := 3) (v := .int (nI a)) (C := R_Parser) (T := F_Parser) (N := 4) hx hb hts i_Parser hown hK hP 0 rfl rfl 3 (by decide) (hts _ k_119) (fun _ h9 => h9) rfl d_Parser_want_28 ?_
      refine lv_iconst (v := nI 1) hx hb d_Parser_want_31 (by decide) ?_
      refine nv_iadd hx hb d_Parser_want_32 ?_
      refine va_put (D := (dC, dI)) (ci := 3) (v := .int (nI (a + 1))) (ty := .int) (C := R_Parser) (T := F_Parser) (N := 4) hx hb hts i_Parser t_Parser t_Parser_ok n_Parser hown hK hP hD hS 0 rfl rfl 3 (by decide) (hts _ k_119) (fun _ h9 => h9) rfl (by decide +kernel) rfl rfl (Nat.le_of_ble_eq_true rfl) d_Parser_want_33 (fun H locs hP hD hS => ?_)
      have hP : va_P (dC, dI) cl [(qp, .inr (3, [.ref qc, .ref qt, .ref qf, .int (nI (a + 1))])), (qt, .inr (1, [w0, w1, .ref qk, .ref ql, w4, w5, w6])), (qk, .inl (cI, 1001, .inl fk)), (ql, .inl (cI, 1001, .inl fp)), (qf, .inr (2, [v0, v1]))] H := hP
      have hD : va_D A [(qp, .inr (3, [.ref qc, .ref qt, .ref qf, .int (nI (a + 1))])), (qt, .inr (1, [w0, w1, .ref qk, .ref ql, w4, w5, w6])), (qk, .inl (cI, 1001, .inl fk)), (ql, .inl (cI, 1001, .inl fp)), (qf, .inr (2, [v0, v1]))] := hD
      refine lv_iconst (v := nI 1) hx hb d_Parser_want_36 (by decide) ?_
      have hok : wt_ok fk a x = true := by first | (simp [wt_ok, c_1, c_7]; done) | (simp [wt_ok, c_1]; done) | (simp [wt_ok]; omega)
      exact wr_z (x := true) hx hb hr hlocks (a + 1, v0, v1) ⟨congrArg bI hok.symm, by unfold wt_to; rw [if_pos hok]⟩ hK hP hD hS d_Parser_want_37
theorem d_Parser_wantNameWithRoom_0 : decode b_Parser_wantNameWithRoom 0 = .ok (.aload_n 0, 1) := by decide +kernel
theorem d_Parser_wantNameWithRoom_1 : decode b_Parser_wantNameWithRoom 1 = .ok (.getfield 20, 3) := by decide +kernel
theorem d_Parser_wantNameWithRoom_4 : decode b_Parser_wantNameWithRoom 4 = .ok (.getfield 170, 3) := by decide +kernel
theorem d_Parser_wantNameWithRoom_7 : decode b_Parser_wantNameWithRoom 7 = .ok (.aload_n 0, 1) := by decide +kernel
theorem d_Parser_wantNameWithRoom_8 : decode b_Parser_wantNameWithRoom 8 = .ok (.getfield 16, 3) := by decide +kernel
theorem d_Parser_wantNameWithRoom_11 : decode b_Parser_wantNameWithRoom 11 = .ok (.iaload, 1) := by decide +kernel
theorem d_Parser_wantNameWithRoom_12 : decode b_Parser_wantNameWithRoom 12 = .ok (.iconst 3, 1) := by decide +kernel
theorem d_Parser_wantNameWithRoom_13 : decode b_Parser_wantNameWithRoom 13 = .ok (.if_icmp .ne 9, 3) := by decide +kernel
theorem d_Parser_wantNameWithRoom_16 : decode b_Parser_wantNameWithRoom 16 = .ok (.iload_n 1, 1) := by decide +kernel
theorem d_Parser_wantNameWithRoom_17 : decode b_Parser_wantNameWithRoom 17 = .ok (.ifCond .eq 5, 3) := by decide +kernel
theorem d_Parser_wantNameWithRoom_20 : decode b_Parser_wantNameWithRoom 20 = .ok (.iconst 1, 1) := by decide +kernel
theorem d_Parser_wantNameWithRoom_21 : decode b_Parser_wantNameWithRoom 21 = .ok (.ireturn, 1) := by decide +kernel
theorem d_Parser_wantNameWithRoom_22 : decode b_Parser_wantNameWithRoom 22 = .ok (.aload_n 0, 1) := by decide +kernel
theorem d_Parser_wantNameWithRoom_23 : decode b_Parser_wantNameWithRoom 23 = .ok (.getfield 20, 3) := by decide +kernel
theorem d_Parser_wantNameWithRoom_26 : decode b_Parser_wantNameWithRoom 26 = .ok (.getfield 170, 3) := by decide +kernel
theorem d_Parser_wantNameWithRoom_29 : decode b_Parser_wantNameWithRoom 29 = .ok (.aload_n 0, 1) := by decide +kernel
theorem d_Parser_wantNameWithRoom_30 : decode b_Parser_wantNameWithRoom 30 = .ok (.getfield 16, 3) := by decide +kernel
theorem d_Parser_wantNameWithRoom_33 : decode b_Parser_wantNameWithRoom 33 = .ok (.iaload, 1) := by decide +kernel
theorem d_Parser_wantNameWithRoom_34 : decode b_Parser_wantNameWithRoom 34 = .ok (.iconst 3, 1) := by decide +kernel
theorem d_Parser_wantNameWithRoom_35 : decode b_Parser_wantNameWithRoom 35 = .ok (.if_icmp .eq 19, 3) := by decide +kernel
theorem d_Parser_wantNameWithRoom_38 : decode b_Parser_wantNameWithRoom 38 = .ok (.aload_n 0, 1) := by decide +kernel
theorem d_Parser_wantNameWithRoom_39 : decode b_Parser_wantNameWithRoom 39 = .ok (.getfield 20, 3) := by decide +kernel
theorem d_Parser_wantNameWithRoom_42 : decode b_Parser_wantNameWithRoom 42 = .ok (.getfield 170, 3) := by decide +kernel
theorem d_Parser_wantNameWithRoom_45 : decode b_Parser_wantNameWithRoom 45 = .ok (.aload_n 0, 1) := by decide +kernel
theorem d_Parser_wantNameWithRoom_46 : decode b_Parser_wantNameWithRoom 46 = .ok (.getfield 16, 3) := by decide +kernel
theorem d_Parser_wantNameWithRoom_49 : decode b_Parser_wantNameWithRoom 49 = .ok (.iaload, 1) := by decide +kernel
theorem d_Parser_wantNameWithRoom_50 : decode b_Parser_wantNameWithRoom 50 = .ok (.iconst 2, 1) := by decide +kernel
theorem d_Parser_wantNameWithRoom_51 : decode b_Parser_wantNameWithRoom 51 = .ok (.if_icmp .ne 7, 3) := by decide +kernel
theorem d_Parser_wantNameWithRoom_54 : decode b_Parser_wantNameWithRoom 54 = .ok (.iconst 1, 1) := by decide +kernel
theorem d_Parser_wantNameWithRoom_55 : decode b_Parser_wantNameWithRoom 55 = .ok (.goto 4, 3) := by decide +kernel
theorem d_Parser_wantNameWithRoom_58 : decode b_Parser_wantNameWithRoom 58 = .ok (.iconst 0, 1) := by decide +kernel
theorem d_Parser_wantNameWithRoom_59 : decode b_Parser_wantNameWithRoom 59 = .ok (.istore_n 2, 1) := by decide +kernel
theorem d_Parser_wantNameWithRoom_60 : decode b_Parser_wantNameWithRoom 60 = .ok (.aload_n 0, 1) := by decide +kernel
theorem d_Parser_wantNameWithRoom_61 : decode b_Parser_wantNameWithRoom 61 = .ok (.getfield 24, 3) := by decide +kernel
theorem d_Parser_wantNameWithRoom_64 : decode b_Parser_wantNameWithRoom 64 = .ok (.iload_n 2, 1) := by decide +kernel
theorem d_Parser_wantNameWithRoom_65 : decode b_Parser_wantNameWithRoom 65 = .ok (.ifCond .eq 7, 3) := by decide +kernel
theorem d_Parser_wantNameWithRoom_68 : decode b_Parser_wantNameWithRoom 68 = .ok (.iconst 2, 1) := by decide +kernel
theorem d_Parser_wantNameWithRoom_69 : decode b_Parser_wantNameWithRoom 69 = .ok (.goto 4, 3) := by decide +kernel
theorem d_Parser_wantNameWithRoom_72 : decode b_Parser_wantNameWithRoom 72 = .ok (.iconst 1, 1) := by decide +kernel
theorem d_Parser_wantNameWithRoom_73 : decode b_Parser_wantNameWithRoom 73 = .ok (.aload_n 0, 1) := by decide +kernel
theorem d_Parser_wantNameWithRoom_74 : decode b_Parser_wantNameWithRoom 74 = .ok (.getfield 20, 3) := by decide +kernel
theorem d_Parser_wantNameWithRoom_77 : decode b_Parser_wantNameWithRoom 77 = .ok (.getfield 96, 3) := by decide +kernel
theorem d_Parser_wantNameWithRoom_80 : decode b_Parser_wantNameWithRoom 80 = .ok (.aload_n 0, 1) := by decide +kernel
theorem d_Parser_wantNameWithRoom_81 : decode b_Parser_wantNameWithRoom 81 = .ok (.getfield 16, 3) := by decide +kernel
theorem d_Parser_wantNameWithRoom_84 : decode b_Parser_wantNameWithRoom 84 = .ok (.iaload, 1) := by decide +kernel
theorem d_Parser_wantNameWithRoom_85 : decode b_Parser_wantNameWithRoom 85 = .ok (.invokevirtual 150, 3) := by decide +kernel
theorem d_Parser_wantNameWithRoom_88 : decode b_Parser_wantNameWithRoom 88 = .ok (.ireturn, 1) := by decide +kernel
set_option maxHeartbeats 4000000 in
set_option maxRecDepth 100000 in
/-- wantNameWithRoom(y) -/
theorem c_Parser_wantNameWithRoom (l : Launch) (dC : Nat → ClassId) (dI : Nat → Nat → Nat) (cB cI cL cZ cC cO : ClassId) (qp qc qt qf qk ql : Nat) {w0 w1 w4 w5 w6 : Value} (v0 v1 : Value) (fk fp : Nat → Int32) (a : Nat) (y : Bool) (sz : Nat) (ha : a ≤ 1000) : Met l y_Parser_wantNameWithRoom w_Parser_wantNameWithRoom ({ frames := 1, cells := 0, slots := 0, locals := 25 }) (va_Pc [.ref qp, .int (bI y)] (wB (dC, dI) cl [(cB, .byte), (cI, .int), (cL, .long), (cZ, .boolean), (cC, .char), (cO, .object "java/lang/Object")] sz [(qp, .inr (3, [.ref qc, .ref qt, .ref qf, .int (nI a)])), (qt, .inr (1, [w0, w1, .ref qk, .ref ql, w4, w5, w6])), (qk, .inl (cI, 1001, .inl fk)), (ql, .inl (cI, 1001, .inl fp)), (qf, .inr (2, [v0, v1]))])) (va_Qi (fun (r : Int32) (u : Value × Value) => r = bI (wn_ok fk a y) ∧ u = wn_to fk fp a y v0 v1) (fun u t => wA (dC, dI) cl [(cB, .byte), (cI, .int), (cL, .long), (cZ, .boolean), (cC, .char), (cO, .object "java/lang/Object")] (va_A [(qp, .inr (3, [.ref qc, .ref qt, .ref qf, .int (nI a)])), (qt, .inr (1, [w0, w1, .ref qk, .ref ql, w4, w5, w6])), (qk, .inl (cI, 1001, .inl fk)), (ql, .inl (cI, 1001, .inl fp)), (qf, .inr (2, [v0, v1]))] sz) [(qp, .inr (3, [.ref qc, .ref qt, .ref qf, .int (nI a)])), (qt, .inr (1, [w0, w1, .ref qk, .ref ql, w4, w5, w6])), (qk, .inl (cI, 1001, .inl fk)), (ql, .inl (cI, 1001, .inl fp)), (qf, .inr (2, [u.1, u.2]))] t) (va_A [(qp, .inr (3, [.ref qc, .ref qt, .ref qf, .int (nI a)])), (qt, .inr (1, [w0, w1, .ref qk, .ref ql, w4, w5, w6])), (qk, .inl (cI, 1001, .inl fk)), (ql, .inl (cI, 1001, .inl fp)), (qf, .inr (2, [v0, v1]))] sz)) 0 0 (va_A [(qp, .inr (3, [.ref qc, .ref qt, .ref qf, .int (nI a)])), (qt, .inr (1, [w0, w1, .ref qk, .ref ql, w4, w5, w6])), (qk, .inl (cI, 1001, .inl fk)), (ql, .inl (cI, 1001, .inl fp)), (qf, .inr (2, [v0, v1]))] sz) := by
  refine Met.ofW (cc := b_Parser_wantNameWithRoom) (maxL := 3) (ret := (some ClassFile.FieldType.boolean)) (by decide) rfl ?_
  intro p e s m args below meth c s₁ B hml hv
  obtain ⟨rfl, hsz, hP, hK, hD0, hF⟩ := hv
  have hx := B.exec
  have hb := B.bytes
  have hr := B.returns
  have hts := atoms_spec (ws := w_Parser_wantNameWithRoom) B.pre
  have hts : ∀ w ∈ tb, w.before _ s = true := fun w h => hts w (List.mem_cons_of_mem _ h)
  have hown : s.vm.findClass R_Parser = some m.cls := findClass_of_methodNamed B.named
  have hlocks := B.notSynchronized
  subst hsz
  have hD := hD0.self (sz := s.heap.size)
  generalize hAe : va_A [(qp, .inr (3, [.ref qc, .ref qt, .ref qf, .int (nI a)])), (qt, .inr (1, [w0, w1, .ref qk, .ref ql, w4, w5, w6])), (qk, .inl (cI, 1001, .inl fk)), (ql, .inl (cI, 1001, .inl fp)), (qf, .inr (2, [v0, v1]))] s.heap.size = A at hD hF ⊢
  have hA : ∀ q : Nat, s.heap.size ≤ q → A q := fun q h => by rw [← hAe]; exact Or.inr h
  have hS : va_S A s.heap s.heap [] := va_S.rf
  have hP : va_P (dC, dI) cl [(qp, .inr (3, [.ref qc, .ref qt, .ref qf, .int (nI a)])), (qt, .inr (1, [w0, w1, .ref qk, .ref ql, w4, w5, w6])), (qk, .inl (cI, 1001, .inl fk)), (ql, .inl (cI, 1001, .inl fp)), (qf, .inr (2, [v0, v1]))] s.heap := hP
  have hl := lv_entry ([.ref qp, .int (bI y)]) (n := 3) (Nat.le_of_ble_eq_true rfl)
  rw [lg_entry_eq]
  generalize (lg_sl ([.ref qp, .int (bI y)]) ++ List.replicate (3 - (lg_sl ([.ref qp, .int (bI y)])).length) Slot.unset).toArray = ls at hl ⊢
  have hl : lv_has ls 3 [(0, .ref qp), (1, .int (bI y))] := hl
  refine lv_aload_n hx hb d_Parser_wantNameWithRoom_0 rfl (lv_at hl 0 rfl) ?_
  refine va_get (D := (dC, dI)) (ci := 3) (v := .ref qt) (C := R_Parser) (T := F_Parser) (N := 4) hx hb hts i_Parser hown hK hP 0 rfl rfl 1 (by decide) (hts _ k_117) (fun _ h9 => h9) rfl d_Parser_wantNameWithRoom_1 ?_
  refine va_get (D := (dC, dI)) (ci := 1) (v := .ref qk) (C := R_Text) (T := F_Text) (N := 7) hx hb hts i_Text hown hK hP 1 rfl rfl 2 (by decide) (hts _ k_41) (fun _ h9 => h9) rfl d_Parser_wantNameWithRoom_4 ?_
  refine lv_aload_n hx hb d_Parser_wantNameWithRoom_7 rfl (lv_at hl 0 rfl) ?_
  refine va_get (D := (dC, dI)) (ci := 3) (v := .int (nI a)) (C := R_Parser) (T := F_Parser) (N := 4) hx hb hts i_Parser hown hK hP 0 rfl rfl 3 (by decide) (hts _ k_119) (fun _ h9 => h9) rfl d_Parser_wantNameWithRoom_8 ?_
  refine nv_iald hx hb hK hP 2 1 rfl rfl (by omega) (by decide) d_Parser_wantNameWithRoom_11 ?_
  refine lv_iconst (v := nI 3) hx hb d_Parser_wantNameWithRoom_12 (by decide) ?_
  refine lv_icmp_ne (tgt := 22) hx hb d_Parser_wantNameWithRoom_13 (by decide) (fun c_1 => ?_) (fun c_1 => ?_)
  · refine lv_aload_n hx hb d_Parser_wantNameWithRoom_22 rfl (lv_at hl 0 rfl) ?_
    refine va_get (D := (dC, dI)) (ci := 3) (v := .ref qt) (C := R_Parser) (T := F_Parser) (N := 4) hx hb hts i_Parser hown hK hP 0 rfl rfl 1 (by decide) (hts _ k_117) (fun _ h9 => h9) rfl d_Parser_wantNameWithRoom_23 ?_
    refine va_get (D := (dC, dI)) (ci := 1) (v := .ref qk) (C := R_Text) (T := F_Text) (N := 7) hx hb hts i_Text hown hK hP 1 rfl rfl 2 (by decide) (hts _ k_41) (fun _ h9 => h9) rfl d_Parser_wantNameWithRoom_26 ?_
    refine lv_aload_n hx hb d_Parser_wantNameWithRoom_29 rfl (lv_at hl 0 rfl) ?_
    refine va_get (D := (dC, dI)) (ci := 3) (v := .int (nI a)) (C := R_Parser) (T := F_Parser) (N := 4) hx hb hts i_Parser hown hK hP 0 rfl rfl 3 (by decide) (hts _ k_119) (fun _ h9 => h9) rfl d_Parser_wantNameWithRoom_30 ?_
    refine nv_iald hx hb hK hP 2 1 rfl rfl (by omega) (by decide) d_Parser_wantNameWithRoom_33 ?_
    refine lv_iconst (v := nI 3) hx hb d_Parser_wantNameWithRoom_34 (by decide) ?_
    refine lv_icmp_eq (tgt := 54) hx hb d_Parser_wantNameWithRoom_35 (by decide) (fun c_2 => ?_) (fun c_2 => ?_)
    · have gf : fk a = nI 3 ∨ fk a = nI 2 := by first | exact Or.inl c_2 | exact Or.inr c_2
      refine lv_iconst (v := nI 1) hx hb d_Parser_wantNameWithRoom_54 (by decide) ?_
      refine lv_goto (tgt := 59) hx hb d_Parser_wantNameWithRoom_55 (by decide) ?_
      refine lv_istore_n (lv' := [(2, .int (nI 1)), (0, .ref qp), (1, .int (bI y))]) hx hb d_Parser_wantNameWithRoom_59 rfl hl (by decide) rfl (fun ls hl => ?_)
      refine lv_aload_n hx hb d_Parser_wantNameWithRoom_60 rfl (lv_at hl 1 rfl) ?_
      refine va_get (D := (dC, dI)) (ci := 3) (v := .ref qf) (C := R_Parser) (T := F_Parser) (N := 4) hx hb hts i_Parser hown hK hP 0 rfl rfl 2 (by decide) (hts _ k_118) (fun _ h9 => h9) rfl d_Parser_wantNameWithRoom_61 ?_
      refine lv_iload_n hx hb d_Parser_wantNameWithRoom_64 rfl (lv_at hl 0 rfl) ?_
      refine nv_if_eq (tgt := 72) hx hb (by omega) d_Parser_wantNameWithRoom_65 (by decide) (fun c_3 => ?_) (fun c_3 => ?_)
      · refine lv_iconst (v := nI 1) hx hb d_Parser_wantNameWithRoom_72 (by decide) ?_
        refine lv_aload_n hx hb d_Parser_wantNameWithRoom_73 rfl (lv_at hl 1 rfl) ?_
        refine va_get (D := (dC, dI)) (ci := 3) (v := .ref qt) (C := R_Parser) (T := F_Parser) (N := 4) hx hb hts i_Parser hown hK hP 0 rfl rfl 1 (by decide) (hts _ k_117) (fun _ h9 => h9) rfl d_Parser_wantNameWithRoom_74 ?_
        refine va_get (D := (dC, dI)) (ci := 1) (v := .ref ql) (C := R_Text) (T := F_Text) (N := 7) hx hb hts i_Text hown hK hP 1 rfl rfl 3 (by decide) (hts _ k_43) (fun _ h9 => h9) rfl d_Parser_wantNameWithRoom_77 ?_
        refine lv_aload_n hx hb d_Parser_wantNameWithRoom_80 rfl (lv_at hl 1 rfl) ?_
        refine va_get (D := (dC, dI)) (ci := 3) (v := .int (nI a)) (C := R_Parser) (T := F_Parser) (N := 4) hx hb hts i_Parser hown hK hP 0 rfl rfl 3 (by decide) (hts _ k_119) (fun _ h9 => h9) rfl d_Parser_wantNameWithRoom_81 ?_
        refine nv_iald hx hb hK hP 3 1 rfl rfl (by omega) (by decide) d_Parser_wantNameWithRoom_84 ?_
        refine wc_i (wc := [(qf, .inr (2, [v0, v1]))]) (wr := [(qp, .inr (3, [.ref qc, .ref qt, .ref qf, .int (nI a)])), (qt, .inr (1, [w0, w1, .ref qk, .ref ql, w4, w5, w6])), (qk, .inl (cI, 1001, .inl fk)), (ql, .inl (cI, 1001, .inl fp))]) (va_runV (As := [.int (nI 1), .int (fp a)]) (rest := []) ⟨hx, hb, hml, hown, hts⟩ (c_Fault_note l dC dI cB cI cL cZ cC cO qf (nI 1) (fp a) _ ) (cwV 2 hts (good_V k_533 k_534 k_535 k_3 k_536) rfl rfl rfl (by decide +kernel) ⟨Nat.le_of_ble_eq_true rfl, Nat.le_of_ble_eq_true rfl⟩) (wc_preV (k0 := 4) (ci := 2) (r := (R_Fault, F_Fault, 2)) hK hP hD hS hA hF [4] (by decide) rfl rfl rfl) rfl rfl hl.1 rfl (lv_room (Nat.le_of_ble_eq_true rfl)) d_Parser_wantNameWithRoom_85 ⟨Nat.le_of_ble_eq_true rfl, Nat.le_of_ble_eq_true rfl⟩) hP hD hS hA [4] [0, 1, 2, 3] rfl rfl (by decide) (by decide) (fun r_5 u H locs w_4 hP hD hS => ?_)
        have hP : va_P (dC, dI) cl [(qp, .inr (3, [.ref qc, .ref qt, .ref qf, .int (nI a)])), (qt, .inr (1, [w0, w1, .ref qk, .ref ql, w4, w5, w6])), (qk, .inl (cI, 1001, .inl fk)), (ql, .inl (cI, 1001, .inl fp)), (qf, .inr (2, [.int (nI 1), .int (fp a)]))] H := hP
        have hD : va_D A [(qp, .inr (3, [.ref qc, .ref qt, .ref qf, .int (nI a)])), (qt, .inr (1, [w0, w1, .ref qk, .ref ql, w4, w5, w6])), (qk, .inl (cI, 1001, .inl fk)), (ql, .inl (cI, 1001, .inl fp)), (qf, .inr (2, [.int (nI 1), .int (fp a)]))] := hD
        subst w_4
        have hok : wn_ok fk a y = false := by first | (simp [wn_ok, c_1]; done) | (simp [wn_ok, c_1, c_2]; done)
        first | exact absurd c_3 (by decide) | exact wr_z (x := false) hx hb hr hlocks (.int (nI 1), .int (fp a)) ⟨congrArg bI hok.symm, by unfold wn_to; rw [if_neg (by rw [hok]; decide)]; first | rw [if_pos gf] | rw [if_neg gf]⟩ hK hP hD hS d_Parser_wantNameWithRoom_88
      · refine lv_iconst (v := nI 2) hx hb d_Parser_wantNameWithRoom_68 (by decide) ?_
        refine lv_goto (tgt := 73) hx hb d_Parser_wantNameWithRoom_69 (by decide) ?_
        refine lv_aload_n hx hb d_Parser_wantNameWithRoom_73 rfl (lv_at hl 1 rfl) ?_
        refine va_get (D := (dC, dI)) (ci := 3) (v := .ref qt) (C := R_Parser) (T := F_Parser) (N := 4) hx hb hts i_Parser hown hK hP 0 rfl rfl 1 (by decide) (hts _ k_117) (fun _ h9 => h9) rfl d_Parser_wantNameWithRoom_74 ?_
        refine va_get (D := (dC, dI)) (ci := 1) (v := .ref ql) (C := R_Text) (T := F_Text) (N := 7) hx hb hts i_Text hown hK hP 1 rfl rfl 3 (by decide) (hts _ k_43) (fun _ h9 => h9) rfl d_Parser_wantNameWithRoom_77 ?_
        refine lv_aload_n hx hb d_Parser_wantNameWithRoom_80 rfl (lv_at hl 1 rfl) ?_
        refine va_get (D := (dC, dI)) (ci := 3) (v := .int (nI a)) (C := R_Parser) (T := F_Parser) (N := 4) hx hb hts i_Parser hown hK hP 0 rfl rfl 3 (by decide) (hts _ k_119) (fun _ h9 => h9) rfl d_Parser_wantNameWithRoom_81 ?_
        refine nv_iald hx hb hK hP 3 1 rfl rfl (by omega) (by decide) d_Parser_wantNameWithRoom_84 ?_
        refine wc_i (wc := [(qf, .inr (2, [v0, v1]))]) (wr := [(qp, .inr (3, [.ref qc, .ref qt, .ref qf, .int (nI a)])), (qt, .inr (1, [w0, w1, .ref qk, .ref ql, w4, w5, w6])), (qk, .inl (cI, 1001, .inl fk)), (ql, .inl (cI, 1001, .inl fp))]) (va_runV (As := [.int (nI 2), .int (fp a)]) (rest := []) ⟨hx, hb, hml, hown, hts⟩ (c_Fault_note l dC dI cB cI cL cZ cC cO qf (nI 2) (fp a) _ ) (cwV 2 hts (good_V k_533 k_534 k_535 k_3 k_536) rfl rfl rfl (by decide +kernel) ⟨Nat.le_of_ble_eq_true rfl, Nat.le_of_ble_eq_true rfl⟩) (wc_preV (k0 := 4) (ci := 2) (r := (R_Fault, F_Fault, 2)) hK hP hD hS hA hF [4] (by decide) rfl rfl rfl) rfl rfl hl.1 rfl (lv_room (Nat.le_of_ble_eq_true rfl)) d_Parser_wantNameWithRoom_85 ⟨Nat.le_of_ble_eq_true rfl, Nat.le_of_ble_eq_true rfl⟩) hP hD hS hA [4] [0, 1, 2, 3] rfl rfl (by decide) (by decide) (fun r_7 u H locs w_6 hP hD hS => ?_)
        have hP : va_P (dC, dI) cl [(qp, .inr (3, [.ref qc, .ref qt, .ref qf, .int (nI a)])), (qt, .inr (1, [w0, w1, .ref qk, .ref ql, w4, w5, w6])), (qk, .inl (cI, 1001, .inl fk)), (ql, .inl (cI, 1001, .inl fp)), (qf, .inr (2, [.int (nI 2), .int (fp a)]))] H := hP
        have hD : va_D A [(qp, .inr (3, [.ref qc, .ref qt, .ref qf, .int (nI a)])), (qt, .inr (1, [w0, w1, .ref qk, .ref ql, w4, w5, w6])), (qk, .inl (cI, 1001, .inl fk)), (ql, .inl (cI, 1001, .inl fp)), (qf, .inr (2, [.int (nI 2), .int (fp a)]))] := hD
        subst w_6
        have hok : wn_ok fk a y = false := by first | (simp [wn_ok, c_1]; done) | (simp [wn_ok, c_1, c_2]; done)
        first | exact absurd c_3 (by decide) | exact wr_z (x := false) hx hb hr hlocks (.int (nI 2), .int (fp a)) ⟨congrArg bI hok.symm, by unfold wn_to; rw [if_neg (by rw [hok]; decide)]; first | rw [if_pos gf] | rw [if_neg gf]⟩ hK hP hD hS d_Parser_wantNameWithRoom_88
    · refine lv_aload_n hx hb d_Parser_wantNameWithRoom_38 rfl (lv_at hl 0 rfl) ?_
      refine va_get (D := (dC, dI)) (ci := 3) (v := .ref qt) (C := R_Parser) (T := F_Parser) (N := 4) hx hb hts i_Parser hown hK hP 0 rfl rfl 1 (by decide) (hts _ k_117) (fun _ h9 => h9) rfl d_Parser_wantNameWithRoom_39 ?_
      refine va_get (D := (dC, dI)) (ci := 1) (v := .ref qk) (C := R_Text) (T := F_Text) (N := 7) hx hb hts i_Text hown hK hP 1 rfl rfl 2 (by decide) (hts _ k_41) (fun _ h9 => h9) rfl d_Parser_wantNameWithRoom_42 ?_
      refine lv_aload_n hx hb d_Parser_wantNameWithRoom_45 rfl (lv_at hl 0 rfl) ?_
      refine va_get (D := (dC, dI)) (ci := 3) (v := .int (nI a)) (C := R_Parser) (T := F_Parser) (N := 4) hx hb hts i_Parser hown hK hP 0 rfl rfl 3 (by decide) (hts _ k_119) (fun _ h9 => h9) rfl d_Parser_wantNameWithRoom_46 ?_
      refine nv_iald hx hb hK hP 2 1 rfl rfl (by omega) (by decide) d_Parser_wantNameWithRoom_49 ?_
      refine lv_iconst (v := nI 2) hx hb d_Parser_wantNameWithRoom_50 (by decide) ?_
      refine lv_icmp_ne (tgt := 58) hx hb d_Parser_wantNameWithRoom_51 (by decide) (fun c_8 => ?_) (fun c_8 => ?_)
      · have gf : ¬ (fk a = nI 3 ∨ fk a = nI 2) := fun q9 => q9.elim c_2 c_8
        refine lv_iconst (v := nI 0) hx hb d_Parser_wantNameWithRoom_58 (by decide) ?_
        refine lv_istore_n (lv' := [(2, .int (nI 0)), (0, .ref qp), (1, .int (bI y))]) hx hb d_Parser_wantNameWithRoom_59 rfl hl (by decide) rfl (fun ls hl => ?_)
        refine lv_aload_n hx hb d_Parser_wantNameWithRoom_60 rfl (lv_at hl 1 rfl) ?_
        refine va_get (D := (dC, dI)) (ci := 3) (v := .ref qf) (C := R_Parser) (T := F_Parser) (N := 4) hx hb hts i_Parser hown hK hP 0 rfl rfl 2 (by decide) (hts _ k_118) (fun _ h9 => h9) rfl d_Parser_wantNameWithRoom_61 ?_
        refine lv_iload_n hx hb d_Parser_wantNameWithRoom_64 rfl (lv_at hl 0 rfl) ?_
        refine nv_if_eq (tgt := 72) hx hb (by omega) d_Parser_wantNameWithRoom_65 (by decide) (fun c_9 => ?_) (fun c_9 => ?_)
        · refine lv_iconst (v := nI 1) hx hb d_Parser_wantNameWithRoom_72 (by decide) ?_
          refine lv_aload_n hx hb d_Parser_wantNameWithRoom_73 rfl (lv_at hl 1 rfl) ?_
          refine va_get (D := (dC, dI)) (ci := 3) (v := .ref qt) (C := R_Parser) (T := F_Parser) (N := 4) hx hb hts i_Parser hown hK hP 0 rfl rfl 1 (by decide) (hts _ k_117) (fun _ h9 => h9) rfl d_Parser_wantNameWithRoom_74 ?_
          refine va_get (D := (dC, dI)) (ci := 1) (v := .ref ql) (C := R_Text) (T := F_Text) (N := 7) hx hb hts i_Text hown hK hP 1 rfl rfl 3 (by decide) (hts _ k_43) (fun _ h9 => h9) rfl d_Parser_wantNameWithRoom_77 ?_
          refine lv_aload_n hx hb d_Parser_wantNameWithRoom_80 rfl (lv_at hl 1 rfl) ?_
          refine va_get (D := (dC, dI)) (ci := 3) (v := .int (nI a)) (C := R_Parser) (T := F_Parser) (N := 4) hx hb hts i_Parser hown hK hP 0 rfl rfl 3 (by decide) (hts _ k_119) (fun _ h9 => h9) rfl d_Parser_wantNameWithRoom_81 ?_
          refine nv_iald hx hb hK hP 3 1 rfl rfl (by omega) (by decide) d_Parser_wantNameWithRoom_84 ?_
          refine wc_i (wc := [(qf, .inr (2, [v0, v1]))]) (wr := [(qp, .inr (3, [.ref qc, .ref qt, .ref qf, .int (nI a)])), (qt, .inr (1, [w0, w1, .ref qk, .ref ql, w4, w5, w6])), (qk, .inl (cI, 1001, .inl fk)), (ql, .inl (cI, 1001, .inl fp))]) (va_runV (As := [.int (nI 1), .int (fp a)]) (rest := []) ⟨hx, hb, hml, hown, hts⟩ (c_Fault_note l dC dI cB cI cL cZ cC cO qf (nI 1) (fp a) _ ) (cwV 2 hts (good_V k_533 k_534 k_535 k_3 k_536) rfl rfl rfl (by decide +kernel) ⟨Nat.le_of_ble_eq_true rfl, Nat.le_of_ble_eq_true rfl⟩) (wc_preV (k0 := 4) (ci := 2) (r := (R_Fault, F_Fault, 2)) hK hP hD hS hA hF [4] (by decide) rfl rfl rfl) rfl rfl hl.1 rfl (lv_room (Nat.le_of_ble_eq_true rfl)) d_Parser_wantNameWithRoom_85 ⟨Nat.le_of_ble_eq_true rfl, Nat.le_of_ble_eq_true rfl⟩) hP hD hS hA [4] [0, 1, 2, 3] rfl rfl (by decide) (by decide) (fun r_11 u H locs w_10 hP hD hS => ?_)
          have hP : va_P (dC, dI) cl [(qp, .inr (3, [.ref qc, .ref qt, .ref qf, .int (nI a)])), (qt, .inr (1, [w0, w1, .ref qk, .ref ql, w4, w5, w6])), (qk, .inl (cI, 1001, .inl fk)), (ql, .inl (cI, 1001, .inl fp)), (qf, .inr (2, [.int (nI 1), .int (fp a)]))] H := hP
          have hD : va_D A [(qp, .inr (3, [.ref qc, .ref qt, .ref qf, .int (nI a)])), (qt, .inr (1, [w0, w1, .ref qk, .ref ql, w4, w5, w6])), (qk, .inl (cI, 1001, .inl fk)), (ql, .inl (cI, 1001, .inl fp)), (qf, .inr (2, [.int (nI 1), .int (fp a)]))] := hD
          subst w_10
          have hok : wn_ok fk a y = false := by first | (simp [wn_ok, c_1]; done) | (simp [wn_ok, c_1, c_2]; done)
          first | exact absurd c_9 (by decide) | exact wr_z (x := false) hx hb hr hlocks (.int (nI 1), .int (fp a)) ⟨congrArg bI hok.symm, by unfold wn_to; rw [if_neg (by rw [hok]; decide)]; first | rw [if_pos gf] | rw [if_neg gf]⟩ hK hP hD hS d_Parser_wantNameWithRoom_88
        · refine lv_iconst (v := nI 2) hx hb d_Parser_wantNameWithRoom_68 (by decide) ?_
          refine lv_goto (tgt := 73) hx hb d_Parser_wantNameWithRoom_69 (by decide) ?_
          refine lv_aload_n hx hb d_Parser_wantNameWithRoom_73 rfl (lv_at hl 1 rfl) ?_
          refine va_get (D := (dC, dI)) (ci := 3) (v := .ref qt) (C := R_Parser) (T := F_Parser) (N := 4) hx hb hts i_Parser hown hK hP 0 rfl rfl 1 (by decide) (hts _ k_117) (fun _ h9 => h9) rfl d_Parser_wantNameWithRoom_74 ?_
          refine va_get (D := (dC, dI)) (ci := 1) (v := .ref ql) (C := R_Text) (T := F_Text) (N := 7) hx hb hts i_Text hown hK hP 1 rfl rfl 3 (by decide) (hts _ k_43) (fun _ h9 => h9) rfl d_Parser_wantNameWithRoom_77 ?_
          refine lv_aload_n hx hb d_Parser_wantNameWithRoom_80 rfl (lv_at hl 1 rfl) ?_
          refine va_get (D := (dC, dI)) (ci := 3) (v := .int (nI a)) (C := R_Parser) (T := F_Parser) (N := 4) hx hb hts i_Parser hown hK hP 0 rfl rfl 3 (by decide) (hts _ k_119) (fun _ h9 => h9) rfl d_Parser_wantNameWithRoom_81 ?_
          refine nv_iald hx hb hK hP 3 1 rfl rfl (by omega) (by decide) d_Parser_wantNameWithRoom_84 ?_
          refine wc_i (wc := [(qf, .inr (2, [v0, v1]))]) (wr := [(qp, .inr (3, [.ref qc, .ref qt, .ref qf, .int (nI a)])), (qt, .inr (1, [w0, w1, .ref qk, .ref ql, w4, w5, w6])), (qk, .inl (cI, 1001, .inl fk)), (ql, .inl (cI, 1001, .inl fp))]) (va_runV (As := [.int (nI 2), .int (fp a)]) (rest := []) ⟨hx, hb, hml, hown, hts⟩ (c_Fault_note l dC dI cB cI cL cZ cC cO qf (nI 2) (fp a) _ ) (cwV 2 hts (good_V k_533 k_534 k_535 k_3 k_536) rfl rfl rfl (by decide +kernel) ⟨Nat.le_of_ble_eq_true rfl, Nat.le_of_ble_eq_true rfl⟩) (wc_preV (k0 := 4) (ci := 2) (r := (R_Fault, F_Fault, 2)) hK hP hD hS hA hF [4] (by decide) rfl rfl rfl) rfl rfl hl.1 rfl (lv_room (Nat.le_of_ble_eq_true rfl)) d_Parser_wantNameWithRoom_85 ⟨Nat.le_of_ble_eq_true rfl, Nat.le_of_ble_eq_true rfl⟩) hP hD hS hA [4] [0, 1, 2, 3] rfl rfl (by decide) (by decide) (fun r_13 u H locs w_12 hP hD hS => ?_)
          have hP : va_P (dC, dI) cl [(qp, .inr (3, [.ref qc, .ref qt, .ref qf, .int (nI a)])), (qt, .inr (1, [w0, w1, .ref qk, .ref ql, w4, w5, w6])), (qk, .inl (cI, 1001, .inl fk)), (ql, .inl (cI, 1001, .inl fp)), (qf, .inr (2, [.int (nI 2), .int (fp a)]))] H := hP
          have hD : va_D A [(qp, .inr (3, [.ref qc, .ref qt, .ref qf, .int (nI a)])), (qt, .inr (1, [w0, w1, .ref qk, .ref ql, w4, w5, w6])), (qk, .inl (cI, 1001, .inl fk)), (ql, .inl (cI, 1001, .inl fp)), (qf, .inr (2, [.int (nI 2), .int (fp a)]))] := hD
          subst w_12
          have hok : wn_ok fk a y = false := by first | (simp [wn_ok, c_1]; done) | (simp [wn_ok, c_1, c_2]; done)
          first | exact absurd c_9 (by decide) | exact wr_z (x := false) hx hb hr hlocks (.int (nI 2), .int (fp a)) ⟨congrArg bI hok.symm, by unfold wn_to; rw [if_neg (by rw [hok]; decide)]; first | rw [if_pos gf] | rw [if_neg gf]⟩ hK hP hD hS d_Parser_wantNameWithRoom_88
      · have gf : fk a = nI 3 ∨ fk a = nI 2 := by first | exact Or.inl c_8 | exact Or.inr c_8
        refine lv_iconst (v := nI 1) hx hb d_Parser_wantNameWithRoom_54 (by decide) ?_
        refine lv_goto (tgt := 59) hx hb d_Parser_wantNameWithRoom_55 (by decide) ?_
        refine lv_istore_n (lv' := [(2, .int (nI 1)), (0, .ref qp), (1, .int (bI y))]) hx hb d_Parser_wantNameWithRoom_59 rfl hl (by decide) rfl (fun ls hl => ?_)
        refine lv_aload_n hx hb d_Parser_wantNameWithRoom_60 rfl (lv_at hl 1 rfl) ?_
        refine va_get (D := (dC, dI)) (ci := 3) (v := .ref qf) (C := R_Parser) (T := F_Parser) (N := 4) hx hb hts i_Parser hown hK hP 0 rfl rfl 2 (by decide) (hts _ k_118) (fun _ h9 => h9) rfl d_Parser_wantNameWithRoom_61 ?_
        refine lv_iload_n hx hb d_Parser_wantNameWithRoom_64 rfl (lv_at hl 0 rfl) ?_
        refine nv_if_eq (tgt := 72) hx hb (by omega) d_Parser_wantNameWithRoom_65 (by decide) (fun c_14 => ?_) (fun c_14 => ?_)
        · refine lv_iconst (v := nI 1) hx hb d_Parser_wantNameWithRoom_72 (by decide) ?_
          refine lv_aload_n hx hb d_Parser_wantNameWithRoom_73 rfl (lv_at hl 1 rfl) ?_
          refine va_get (D := (dC, dI)) (ci := 3) (v := .ref qt) (C := R_Parser) (T := F_Parser) (N := 4) hx hb hts i_Parser hown hK hP 0 rfl rfl 1 (by decide) (hts _ k_117) (fun _ h9 => h9) rfl d_Parser_wantNameWithRoom_74 ?_
          refine va_get (D := (dC, dI)) (ci := 1) (v := .ref ql) (C := R_Text) (T := F_Text) (N := 7) hx hb hts i_Text hown hK hP 1 rfl rfl 3 (by decide) (hts _ k_43) (fun _ h9 => h9) rfl d_Parser_wantNameWithRoom_77 ?_
          refine lv_aload_n hx hb d_Parser_wantNameWithRoom_80 rfl (lv_at hl 1 rfl) ?_
          refine va_get (D := (dC, dI)) (ci := 3) (v := .int (nI a)) (C := R_Parser) (T := F_Parser) (N := 4) hx hb hts i_Parser hown hK hP 0 rfl rfl 3 (by decide) (hts _ k_119) (fun _ h9 => h9) rfl d_Parser_wantNameWithRoom_81 ?_
          refine nv_iald hx hb hK hP 3 1 rfl rfl (by omega) (by decide) d_Parser_wantNameWithRoom_84 ?_
          refine wc_i (wc := [(qf, .inr (2, [v0, v1]))]) (wr := [(qp, .inr (3, [.ref qc, .ref qt, .ref qf, .int (nI a)])), (qt, .inr (1, [w0, w1, .ref qk, .ref ql, w4, w5, w6])), (qk, .inl (cI, 1001, .inl fk)), (ql, .inl (cI, 1001, .inl fp))]) (va_runV (As := [.int (nI 1), .int (fp a)]) (rest := []) ⟨hx, hb, hml, hown, hts⟩ (c_Fault_note l dC dI cB cI cL cZ cC cO qf (nI 1) (fp a) _ ) (cwV 2 hts (good_V k_533 k_534 k_535 k_3 k_536) rfl rfl rfl (by decide +kernel) ⟨Nat.le_of_ble_eq_true rfl, Nat.le_of_ble_eq_true rfl⟩) (wc_preV (k0 := 4) (ci := 2) (r := (R_Fault, F_Fault, 2)) hK hP hD hS hA hF [4] (by decide) rfl rfl rfl) rfl rfl hl.1 rfl (lv_room (Nat.le_of_ble_eq_true rfl)) d_Parser_wantNameWithRoom_85 ⟨Nat.le_of_ble_eq_true rfl, Nat.le_of_ble_eq_true rfl⟩) hP hD hS hA [4] [0, 1, 2, 3] rfl rfl (by decide) (by decide) (fun r_16 u H locs w_15 hP hD hS => ?_)
          have hP : va_P (dC, dI) cl [(qp, .inr (3, [.ref qc, .ref qt, .ref qf, .int (nI a)])), (qt, .inr (1, [w0, w1, .ref qk, .ref ql, w4, w5, w6])), (qk, .inl (cI, 1001, .inl fk)), (ql, .inl (cI, 1001, .inl fp)), (qf, .inr (2, [.int (nI 1), .int (fp a)]))] H := hP
          have hD : va_D A [(qp, .inr (3, [.ref qc, .ref qt, .ref qf, .int (nI a)])), (qt, .inr (1, [w0, w1, .ref qk, .ref ql, w4, w5, w6])), (qk, .inl (cI, 1001, .inl fk)), (ql, .inl (cI, 1001, .inl fp)), (qf, .inr (2, [.int (nI 1), .int (fp a)]))] := hD
          subst w_15
          have hok : wn_ok fk a y = false := by first | (simp [wn_ok, c_1]; done) | (simp [wn_ok, c_1, c_2]; done)
          first | exact absurd c_14 (by decide) | exact wr_z (x := false) hx hb hr hlocks (.int (nI 1), .int (fp a)) ⟨congrArg bI hok.symm, by unfold wn_to; rw [if_neg (by rw [hok]; decide)]; first | rw [if_pos gf] | rw [if_neg gf]⟩ hK hP hD hS d_Parser_wantNameWithRoom_88
        · refine lv_iconst (v := nI 2) hx hb d_Parser_wantNameWithRoom_68 (by decide) ?_
          refine lv_goto (tgt := 73) hx hb d_Parser_wantNameWithRoom_69 (by decide) ?_
          refine lv_aload_n hx hb d_Parser_wantNameWithRoom_73 rfl (lv_at hl 1 rfl) ?_
          refine va_get (D := (dC, dI)) (ci := 3) (v := .ref qt) (C := R_Parser) (T := F_Parser) (N := 4) hx hb hts i_Parser hown hK hP 0 rfl rfl 1 (by decide) (hts _ k_117) (fun _ h9 => h9) rfl d_Parser_wantNameWithRoom_74 ?_
          refine va_get (D := (dC, dI)) (ci := 1) (v := .ref ql) (C := R_Text) (T := F_Text) (N := 7) hx hb hts i_Text hown hK hP 1 rfl rfl 3 (by decide) (hts _ k_43) (fun _ h9 => h9) rfl d_Parser_wantNameWithRoom_77 ?_
          refine lv_aload_n hx hb d_Parser_wantNameWithRoom_80 rfl (lv_at hl 1 rfl) ?_
          refine va_get (D := (dC, dI)) (ci := 3) (v := .int (nI a)) (C := R_Parser) (T := F_Parser) (N := 4) hx hb hts i_Parser hown hK hP 0 rfl rfl 3 (by decide) (hts _ k_119) (fun _ h9 => h9) rfl d_Parser_wantNameWithRoom_81 ?_
          refine nv_iald hx hb hK hP 3 1 rfl rfl (by omega) (by decide) d_Parser_wantNameWithRoom_84 ?_
          refine wc_i (wc := [(qf, .inr (2, [v0, v1]))]) (wr := [(qp, .inr (3, [.ref qc, .ref qt, .ref qf, .int (nI a)])), (qt, .inr (1, [w0, w1, .ref qk, .ref ql, w4, w5, w6])), (qk, .inl (cI, 1001, .inl fk)), (ql, .inl (cI, 1001, .inl fp))]) (va_runV (As := [.int (nI 2), .int (fp a)]) (rest := []) ⟨hx, hb, hml, hown, hts⟩ (c_Fault_note l dC dI cB cI cL cZ cC cO qf (nI 2) (fp a) _ ) (cwV 2 hts (good_V k_533 k_534 k_535 k_3 k_536) rfl rfl rfl (by decide +kernel) ⟨Nat.le_of_ble_eq_true rfl, Nat.le_of_ble_eq_true rfl⟩) (wc_preV (k0 := 4) (ci := 2) (r := (R_Fault, F_Fault, 2)) hK hP hD hS hA hF [4] (by decide) rfl rfl rfl) rfl rfl hl.1 rfl (lv_room (Nat.le_of_ble_eq_true rfl)) d_Parser_wantNameWithRoom_85 ⟨Nat.le_of_ble_eq_true rfl, Nat.le_of_ble_eq_true rfl⟩) hP hD hS hA [4] [0, 1, 2, 3] rfl rfl (by decide) (by decide) (fun r_18 u H locs w_17 hP hD hS => ?_)
          have hP : va_P (dC, dI) cl [(qp, .inr (3, [.ref qc, .ref qt, .ref qf, .int (nI a)])), (qt, .inr (1, [w0, w1, .ref qk, .ref ql, w4, w5, w6])), (qk, .inl (cI, 1001, .inl fk)), (ql, .inl (cI, 1001, .inl fp)), (qf, .inr (2, [.int (nI 2), .int (fp a)]))] H := hP
          have hD : va_D A [(qp, .inr (3, [.ref qc, .ref qt, .ref qf, .int (nI a)])), (qt, .inr (1, [w0, w1, .ref qk, .ref ql, w4, w5, w6])), (qk, .inl (cI, 1001, .inl fk)), (ql, .inl (cI, 1001, .inl fp)), (qf, .inr (2, [.int (nI 2), .int (fp a)]))] := hD
          subst w_17
          have hok : wn_ok fk a y = false := by first | (simp [wn_ok, c_1]; done) | (simp [wn_ok, c_1, c_2]; done)
          first | exact absurd c_14 (by decide) | exact wr_z (x := false) hx hb hr hlocks (.int (nI 2), .int (fp a)) ⟨congrArg bI hok.symm, by unfold wn_to; rw [if_neg (by rw [hok]; decide)]; first | rw [if_pos gf] | rw [if_neg gf]⟩ hK hP hD hS d_Parser_wantNameWithRoom_88
  · refine lv_iload_n hx hb d_Parser_wantNameWithRoom_16 rfl (lv_at hl 1 rfl) ?_
    refine nv_bif_eq (tgt := 22) hx hb d_Parser_wantNameWithRoom_17 (by decide) (fun c_19 => ?_) (fun c_19 => ?_)
    · refine lv_aload_n hx hb d_Parser_wantNameWithRoom_22 rfl (lv_at hl 0 rfl) ?_
      refine va_get (D := (dC, dI)) (ci := 3) (v := .ref qt) (C := R_Parser) (T := F_Parser) (N := 4) hx hb hts i_Parser hown hK hP 0 rfl rfl 1 (by decide) (hts _ k_117) (fun _ h9 => h9) rfl d_Parser_wantNameWithRoom_23 ?_
      refine va_get (D := (dC, dI)) (ci := 1) (v := .ref qk) (C := R_Text) (T := F_Text) (N := 7) hx hb hts i_Text hown hK hP 1 rfl rfl 2 (by decide) (hts _ k_41) (fun _ h9 => h9) rfl d_Parser_wantNameWithRoom_26 ?_
      refine lv_aload_n hx hb d_Parser_wantNameWithRoom_29 rfl (lv_at hl 0 rfl) ?_
      refine va_get (D := (dC, dI)) (ci := 3) (v := .int (nI a)) (C := R_Parser) (T := F_Parser) (N := 4) hx hb hts i_Parser hown hK hP 0 rfl rfl 3 (by decide) (hts _ k_119) (fun _ h9 => h9) rfl d_Parser_wantNameWithRoom_30 ?_
      refine nv_iald hx hb hK hP 2 1 rfl rfl (by omega) (by decide) d_Parser_wantNameWithRoom_33 ?_
      refine lv_iconst (v := nI 3) hx hb d_Parser_wantNameWithRoom_34 (by decide) ?_
      refine lv_icmp_eq (tgt := 54) hx hb d_Parser_wantNameWithRoom_35 (by decide) (fun c_20 => ?_) (fun c_20 => ?_)
      · have gf : fk a = nI 3 ∨ fk a = nI 2 := by first | exact Or.inl c_20 | exact Or.inr c_20
        refine lv_iconst (v := nI 1) hx hb d_Parser_wantNameWithRoom_54 (by decide) ?_
        refine lv_goto (tgt := 59) hx hb d_Parser_wantNameWithRoom_55 (by decide) ?_
        refine lv_istore_n (lv' := [(2, .int (nI 1)), (0, .ref qp), (1, .int (bI y))]) hx hb d_Parser_wantNameWithRoom_59 rfl hl (by decide) rfl (fun ls hl => ?_)
        refine lv_aload_n hx hb d_Parser_wantNameWithRoom_60 rfl (lv_at hl 1 rfl) ?_
        refine va_get (D := (dC, dI)) (ci := 3) (v := .ref qf) (C := R_Parser) (T := F_Parser) (N := 4) hx hb hts i_Parser hown hK hP 0 rfl rfl 2 (by decide) (hts _ k_118) (fun _ h9 => h9) rfl d_Parser_wantNameWithRoom_61 ?_
        refine lv_iload_n hx hb d_Parser_wantNameWithRoom_64 rfl (lv_at hl 0 rfl) ?_
        refine nv_if_eq (tgt := 72) hx hb (by omega) d_Parser_wantNameWithRoom_65 (by decide) (fun c_21 => ?_) (fun c_21 => ?_)
        · refine lv_iconst (v := nI 1) hx hb d_Parser_wantNameWithRoom_72 (by decide) ?_
          refine lv_aload_n hx hb d_Parser_wantNameWithRoom_73 rfl (lv_at hl 1 rfl) ?_
          refine va_get (D := (dC, dI)) (ci := 3) (v := .ref qt) (C := R_Parser) (T := F_Parser) (N := 4) hx hb hts i_Parser hown hK hP 0 rfl rfl 1 (by decide) (hts _ k_117) (fun _ h9 => h9) rfl d_Parser_wantNameWithRoom_74 ?_
          refine va_get (D := (dC, dI)) (ci := 1) (v := .ref ql) (C := R_Text) (T := F_Text) (N := 7) hx hb hts i_Text hown hK hP 1 rfl rfl 3 (by decide) (hts _ k_43) (fun _ h9 => h9) rfl d_Parser_wantNameWithRoom_77 ?_
          refine lv_aload_n hx hb d_Parser_wantNameWithRoom_80 rfl (lv_at hl 1 rfl) ?_
          refine va_get (D := (dC, dI)) (ci := 3) (v := .int (nI a)) (C := R_Parser) (T := F_Parser) (N := 4) hx hb hts i_Parser hown hK hP 0 rfl rfl 3 (by decide) (hts _ k_119) (fun _ h9 => h9) rfl d_Parser_wantNameWithRoom_81 ?_
          refine nv_iald hx hb hK hP 3 1 rfl rfl (by omega) (by decide) d_Parser_wantNameWithRoom_84 ?_
          refine wc_i (wc := [(qf, .inr (2, [v0, v1]))]) (wr := [(qp, .inr (3, [.ref qc, .ref qt, .ref qf, .int (nI a)])), (qt, .inr (1, [w0, w1, .ref qk, .ref ql, w4, w5, w6])), (qk, .inl (cI, 1001, .inl fk)), (ql, .inl (cI, 1001, .inl fp))]) (va_runV (As := [.int (nI 1), .int (fp a)]) (rest := []) ⟨hx, hb, hml, hown, hts⟩ (c_Fault_note l dC dI cB cI cL cZ cC cO qf (nI 1) (fp a) _ ) (cwV 2 hts (good_V k_533 k_534 k_535 k_3 k_536) rfl rfl rfl (by decide +kernel) ⟨Nat.le_of_ble_eq_true rfl, Nat.le_of_ble_eq_true rfl⟩) (wc_preV (k0 := 4) (ci := 2) (r := (R_Fault, F_Fault, 2)) hK hP hD hS hA hF [4] (by decide) rfl rfl rfl) rfl rfl hl.1 rfl (lv_room (Nat.le_of_ble_eq_true rfl)) d_Parser_wantNameWithRoom_85 ⟨Nat.le_of_ble_eq_true rfl, Nat.le_of_ble_eq_true rfl⟩) hP hD hS hA [4] [0, 1, 2, 3] rfl rfl (by decide) (by decide) (fun r_23 u H locs w_22 hP hD hS => ?_)
          have hP : va_P (dC, dI) cl [(qp, .inr (3, [.ref qc, .ref qt, .ref qf, .int (nI a)])), (qt, .inr (1, [w0, w1, .ref qk, .ref ql, w4, w5, w6])), (qk, .inl (cI, 1001, .inl fk)), (ql, .inl (cI, 1001, .inl fp)), (qf, .inr (2, [.int (nI 1), .int (fp a)]))] H := hP
          have hD : va_D A [(qp, .inr (3, [.ref qc, .ref qt, .ref qf, .int (nI a)])), (qt, .inr (1, [w0, w1, .ref qk, .ref ql, w4, w5, w6])), (qk, .inl (cI, 1001, .inl fk)), (ql, .inl (cI, 1001, .inl fp)), (qf, .inr (2, [.int (nI 1), .int (fp a)]))] := hD
          subst w_22
          have hok : wn_ok fk a y = false := by first | (simp [wn_ok, c_1]; done) | (simp [wn_ok, c_1, c_19]; done)
          first | exact absurd c_21 (by decide) | exact wr_z (x := false) hx hb hr hlocks (.int (nI 1), .int (fp a)) ⟨congrArg bI hok.symm, by unfold wn_to; rw [if_neg (by rw [hok]; decide)]; first | rw [if_pos gf] | rw [if_neg gf]⟩ hK hP hD hS d_Parser_wantNameWithRoom_88
        · refine lv_iconst (v := nI 2) hx hb d_Parser_wantNameWithRoom_68 (by decide) ?_
          refine lv_goto (tgt := 73) hx hb d_Parser_wantNameWithRoom_69 (by decide) ?_
          refine lv_aload_n hx hb d_Parser_wantNameWithRoom_73 rfl (lv_at hl 1 rfl) ?_
          refine va_get (D := (dC, dI)) (ci := 3) (v := .ref qt) (C := R_Parser) (T := F_Parser) (N := 4) hx hb hts i_Parser hown hK hP 0 rfl rfl 1 (by decide) (hts _ k_117) (fun _ h9 => h9) rfl d_Parser_wantNameWithRoom_74 ?_
          refine va_get (D := (dC, dI)) (ci := 1) (v := .ref ql) (C := R_Text) (T := F_Text) (N := 7) hx hb hts i_Text hown hK hP 1 rfl rfl 3 (by decide) (hts _ k_43) (fun _ h9 => h9) rfl d_Parser_wantNameWithRoom_77 ?_
          refine lv_aload_n hx hb d_Parser_wantNameWithRoom_80 rfl (lv_at hl 1 rfl) ?_
          refine va_get (D := (dC, dI)) (ci := 3) (v := .int (nI a)) (C := R_Parser) (T := F_Parser) (N := 4) hx hb hts i_Parser hown hK hP 0 rfl rfl 3 (by decide) (hts _ k_119) (fun _ h9 => h9) rfl d_Parser_wantNameWithRoom_81 ?_
          refine nv_iald hx hb hK hP 3 1 rfl rfl (by omega) (by decide) d_Parser_wantNameWithRoom_84 ?_
          refine wc_i (wc := [(qf, .inr (2, [v0, v1]))]) (wr := [(qp, .inr (3, [.ref qc, .ref qt, .ref qf, .int (nI a)])), (qt, .inr (1, [w0, w1, .ref qk, .ref ql, w4, w5, w6])), (qk, .inl (cI, 1001, .inl fk)), (ql, .inl (cI, 1001, .inl fp))]) (va_runV (As := [.int (nI 2), .int (fp a)]) (rest := []) ⟨hx, hb, hml, hown, hts⟩ (c_Fault_note l dC dI cB cI cL cZ cC cO qf (nI 2) (fp a) _ ) (cwV 2 hts (good_V k_533 k_534 k_535 k_3 k_536) rfl rfl rfl (by decide +kernel) ⟨Nat.le_of_ble_eq_true rfl, Nat.le_of_ble_eq_true rfl⟩) (wc_preV (k0 := 4) (ci := 2) (r := (R_Fault, F_Fault, 2)) hK hP hD hS hA hF [4] (by decide) rfl rfl rfl) rfl rfl hl.1 rfl (lv_room (Nat.le_of_ble_eq_true rfl)) d_Parser_wantNameWithRoom_85 ⟨Nat.le_of_ble_eq_true rfl, Nat.le_of_ble_eq_true rfl⟩) hP hD hS hA [4] [0, 1, 2, 3] rfl rfl (by decide) (by decide) (fun r_25 u H locs w_24 hP hD hS => ?_)
          have hP : va_P (dC, dI) cl [(qp, .inr (3, [.ref qc, .ref qt, .ref qf, .int (nI a)])), (qt, .inr (1, [w0, w1, .ref qk, .ref ql, w4, w5, w6])), (qk, .inl (cI, 1001, .inl fk)), (ql, .inl (cI, 1001, .inl fp)), (qf, .inr (2, [.int (nI 2), .int (fp a)]))] H := hP
          have hD : va_D A [(qp, .inr (3, [.ref qc, .ref qt, .ref qf, .int (nI a)])), (qt, .inr (1, [w0, w1, .ref qk, .ref ql, w4, w5, w6])), (qk, .inl (cI, 1001, .inl fk)), (ql, .inl (cI, 1001, .inl fp)), (qf, .inr (2, [.int (nI 2), .int (fp a)]))] := hD
          subst w_24
          have hok : wn_ok fk a y = false := by first | (simp [wn_ok, c_1]; done) | (simp [wn_ok, c_1, c_19]; done)
          first | exact absurd c_21 (by decide) | exact wr_z (x := false) hx hb hr hlocks (.int (nI 2), .int (fp a)) ⟨congrArg bI hok.symm, by unfold wn_to; rw [if_neg (by rw [hok]; decide)]; first | rw [if_pos gf] | rw [if_neg gf]⟩ hK hP hD hS d_Parser_wantNameWithRoom_88
      · refine lv_aload_n hx hb d_Parser_wantNameWithRoom_38 rfl (lv_at hl 0 rfl) ?_
        refine va_get (D := (dC, dI)) (ci := 3) (v := .ref qt) (C := R_Parser) (T := F_Parser) (N := 4) hx hb hts i_Parser hown hK hP 0 rfl rfl 1 (by decide) (hts _ k_117) (fun _ h9 => h9) rfl d_Parser_wantNameWithRoom_39 ?_
        refine va_get (D := (dC, dI)) (ci := 1) (v := .ref qk) (C := R_Text) (T := F_Text) (N := 7) hx hb hts i_Text hown hK hP 1 rfl rfl 2 (by decide) (hts _ k_41) (fun _ h9 => h9) rfl d_Parser_wantNameWithRoom_42 ?_
        refine lv_aload_n hx hb d_Parser_wantNameWithRoom_45 rfl (lv_at hl 0 rfl) ?_
        refine va_get (D := (dC, dI)) (ci := 3) (v := .int (nI a)) (C := R_Parser) (T := F_Parser) (N := 4) hx hb hts i_Parser hown hK hP 0 rfl rfl 3 (by decide) (hts _ k_119) (fun _ h9 => h9) rfl d_Parser_wantNameWithRoom_46 ?_
        refine nv_iald hx hb hK hP 2 1 rfl rfl (by omega) (by decide) d_Parser_wantNameWithRoom_49 ?_
        refine lv_iconst (v := nI 2) hx hb d_Parser_wantNameWithRoom_50 (by decide) ?_
        refine lv_icmp_ne (tgt := 58) hx hb d_Parser_wantNameWithRoom_51 (by decide) (fun c_26 => ?_) (fun c_26 => ?_)
        · have gf : ¬ (fk a = nI 3 ∨ fk a = nI 2) := fun q9 => q9.elim c_20 c_26
          refine lv_iconst (v := nI 0) hx hb d_Parser_wantNameWithRoom_58 (by decide) ?_
          refine lv_istore_n (lv' := [(2, .int (nI 0)), (0, .ref qp), (1, .int (bI y))]) hx hb d_Parser_wantNameWithRoom_59 rfl hl (by decide) rfl (fun ls hl => ?_)
          refine lv_aload_n hx hb d_Parser_wantNameWithRoom_60 rfl (lv_at hl 1 rfl) ?_
          refine va_get (D := (dC, dI)) (ci := 3) (v := .ref qf) (C := R_Parser) (T := F_Parser) (N := 4) hx hb hts i_Parser hown hK hP 0 rfl rfl 2 (by decide) (hts _ k_118) (fun _ h9 => h9) rfl d_Parser_wantNameWithRoom_61 ?_
          refine lv_iload_n hx hb d_Parser_wantNameWithRoom_64 rfl (lv_at hl 0 rfl) ?_
          refine nv_if_eq (tgt := 72) hx hb (by omega) d_Parser_wantNameWithRoom_65 (by decide) (fun c_27 => ?_) (fun c_27 => ?_)
          · refine lv_iconst (v := nI 1) hx hb d_Parser_wantNameWithRoom_72 (by decide) ?_
            refine lv_aload_n hx hb d_Parser_wantNameWithRoom_73 rfl (lv_at hl 1 rfl) ?_
            refine va_get (D := (dC, dI)) (ci := 3) (v := .ref qt) (C := R_Parser) (T := F_Parser) (N := 4) hx hb hts i_Parser hown hK hP 0 rfl rfl 1 (by decide) (hts _ k_117) (fun _ h9 => h9) rfl d_Parser_wantNameWithRoom_74 ?_
            refine va_get (D := (dC, dI)) (ci := 1) (v := .ref ql) (C := R_Text) (T := F_Text) (N := 7) hx hb hts i_Text hown hK hP 1 rfl rfl 3 (by decide) (hts _ k_43) (fun _ h9 => h9) rfl d_Parser_wantNameWithRoom_77 ?_
            refine lv_aload_n hx hb d_Parser_wantNameWithRoom_80 rfl (lv_at hl 1 rfl) ?_
            refine va_get (D := (dC, dI)) (ci := 3) (v := .int (nI a)) (C := R_Parser) (T := F_Parser) (N := 4) hx hb hts i_Parser hown hK hP 0 rfl rfl 3 (by decide) (hts _ k_119) (fun _ h9 => h9) rfl d_Parser_wantNameWithRoom_81 ?_
            refine nv_iald hx hb hK hP 3 1 rfl rfl (by omega) (by decide) d_Parser_wantNameWithRoom_84 ?_
            refine wc_i (wc := [(qf, .inr (2, [v0, v1]))]) (wr := [(qp, .inr (3, [.ref qc, .ref qt, .ref qf, .int (nI a)])), (qt, .inr (1, [w0, w1, .ref qk, .ref ql, w4, w5, w6])), (qk, .inl (cI, 1001, .inl fk)), (ql, .inl (cI, 1001, .inl fp))]) (va_runV (As := [.int (nI 1), .int (fp a)]) (rest := []) ⟨hx, hb, hml, hown, hts⟩ (c_Fault_note l dC dI cB cI cL cZ cC cO qf (nI 1) (fp a) _ ) (cwV 2 hts (good_V k_533 k_534 k_535 k_3 k_536) rfl rfl rfl (by decide +kernel) ⟨Nat.le_of_ble_eq_true rfl, Nat.le_of_ble_eq_true rfl⟩) (wc_preV (k0 := 4) (ci := 2) (r := (R_Fault, F_Fault, 2)) hK hP hD hS hA hF [4] (by decide) rfl rfl rfl) rfl rfl hl.1 rfl (lv_room (Nat.le_of_ble_eq_true rfl)) d_Parser_wantNameWithRoom_85 ⟨Nat.le_of_ble_eq_true rfl, Nat.le_of_ble_eq_true rfl⟩) hP hD hS hA [4] [0, 1, 2, 3] rfl rfl (by decide) (by decide) (fun r_29 u H locs w_28 hP hD hS => ?_)
            have hP : va_P (dC, dI) cl [(qp, .inr (3, [.ref qc, .ref qt, .ref qf, .int (nI a)])), (qt, .inr (1, [w0, w1, .ref qk, .ref ql, w4, w5, w6])), (qk, .inl (cI, 1001, .inl fk)), (ql, .inl (cI, 1001, .inl fp)), (qf, .inr (2, [.int (nI 1), .int (fp a)]))] H := hP
            have hD : va_D A [(qp, .inr (3, [.ref qc, .ref qt, .ref qf, .int (nI a)])), (qt, .inr (1, [w0, w1, .ref qk, .ref ql, w4, w5, w6])), (qk, .inl (cI, 1001, .inl fk)), (ql, .inl (cI, 1001, .inl fp)), (qf, .inr (2, [.int (nI 1), .int (fp a)]))] := hD
            subst w_28
            have hok : wn_ok fk a y = false := by first | (simp [wn_ok, c_1]; done) | (simp [wn_ok, c_1, c_19]; done)
            first | exact absurd c_27 (by decide) | exact wr_z (x := false) hx hb hr hlocks (.int (nI 1), .int (fp a)) ⟨congrArg bI hok.symm, by unfold wn_to; rw [if_neg (by rw [hok]; decide)]; first | rw [if_pos gf] | rw [if_neg gf]⟩ hK hP hD hS d_Parser_wantNameWithRoom_88
          · refine lv_iconst (v := nI 2) hx hb d_Parser_wantNameWithRoom_68 (by decide) ?_
            refine lv_goto (tgt := 73) hx hb d_Parser_wantNameWithRoom_69 (by decide) ?_
            refine lv_aload_n hx hb d_Parser_wantNameWithRoom_73 rfl (lv_at hl 1 rfl) ?_
            refine va_get (D := (dC, dI)) (ci := 3) (v := .ref qt) (C := R_Parser) (T := F_Parser) (N := 4) hx hb hts i_Parser hown hK hP 0 rfl rfl 1 (by decide) (hts _ k_117) (fun _ h9 => h9) rfl d_Parser_wantNameWithRoom_74 ?_
            refine va_get (D := (dC, dI)) (ci := 1) (v := .ref ql) (C := R_Text) (T := F_Text) (N := 7) hx hb hts i_Text hown hK hP 1 rfl rfl 3 (by decide) (hts _ k_43) (fun _ h9 => h9) rfl d_Parser_wantNameWithRoom_77 ?_
            refine lv_aload_n hx hb d_Parser_wantNameWithRoom_80 rfl (lv_at hl 1 rfl) ?_
            refine va_get (D := (dC, dI)) (ci := 3) (v := .int (nI a)) (C := R_Parser) (T := F_Parser) (N := 4) hx hb hts i_Parser hown hK hP 0 rfl rfl 3 (by decide) (hts _ k_119) (fun _ h9 => h9) rfl d_Parser_wantNameWithRoom_81 ?_
            refine nv_iald hx hb hK hP 3 1 rfl rfl (by omega) (by decide) d_Parser_wantNameWithRoom_84 ?_
            refine wc_i (wc := [(qf, .inr (2, [v0, v1]))]) (wr := [(qp, .inr (3, [.ref qc, .ref qt, .ref qf, .int (nI a)])), (qt, .inr (1, [w0, w1, .ref qk, .ref ql, w4, w5, w6])), (qk, .inl (cI, 1001, .inl fk)), (ql, .inl (cI, 1001, .inl fp))]) (va_runV (As := [.int (nI 2), .int (fp a)]) (rest := []) ⟨hx, hb, hml, hown, hts⟩ (c_Fault_note l dC dI cB cI cL cZ cC cO qf (nI 2) (fp a) _ ) (cwV 2 hts (good_V k_533 k_534 k_535 k_3 k_536) rfl rfl rfl (by decide +kernel) ⟨Nat.le_of_ble_eq_true rfl, Nat.le_of_ble_eq_true rfl⟩) (wc_preV (k0 := 4) (ci := 2) (r := (R_Fault, F_Fault, 2)) hK hP hD hS hA hF [4] (by decide) rfl rfl rfl) rfl rfl hl.1 rfl (lv_room (Nat.le_of_ble_eq_true rfl)) d_Parser_wantNameWithRoom_85 ⟨Nat.le_of_ble_eq_true rfl, Nat.le_of_ble_eq_true rfl⟩) hP hD hS hA [4] [0, 1, 2, 3] rfl rfl (by decide) (by decide) (fun r_31 u H locs w_30 hP hD hS => ?_)
            have hP : va_P (dC, dI) cl [(qp, .inr (3, [.ref qc, .ref qt, .ref qf, .int (nI a)])), (qt, .inr (1, [w0, w1, .ref qk, .ref ql, w4, w5, w6])), (qk, .inl (cI, 1001, .inl fk)), (ql, .inl (cI, 1001, .inl fp)), (qf, .inr (2, [.int (nI 2), .int (fp a)]))] H := hP
            have hD : va_D A [(qp, .inr (3, [.ref qc, .ref qt, .ref qf, .int (nI a)])), (qt, .inr (1, [w0, w1, .ref qk, .ref ql, w4, w5, w6])), (qk, .inl (cI, 1001, .inl fk)), (ql, .inl (cI, 1001, .inl fp)), (qf, .inr (2, [.int (nI 2), .int (fp a)]))] := hD
            subst w_30
            have hok : wn_ok fk a y = false := by first | (simp [wn_ok, c_1]; done) | (simp [wn_ok, c_1, c_19]; done)
            first | exact absurd c_27 (by decide) | exact wr_z (x := false) hx hb hr hlocks (.int (nI 2), .int (fp a)) ⟨congrArg bI hok.symm, by unfold wn_to; rw [if_neg (by rw [hok]; decide)]; first | rw [if_pos gf] | rw [if_neg gf]⟩ hK hP hD hS d_Parser_wantNameWithRoom_88
        · have gf : fk a = nI 3 ∨ fk a = nI 2 := by first | exact Or.inl c_26 | exact Or.inr c_26
          refine lv_iconst (v := nI 1) hx hb d_Parser_wantNameWithRoom_54 (by decide) ?_
          refine lv_goto (tgt := 59) hx hb d_Parser_wantNameWithRoom_55 (by decide) ?_
          refine lv_istore_n (lv' := [(2, .int (nI 1)), (0, .ref qp), (1, .int (bI y))]) hx hb d_Parser_wantNameWithRoom_59 rfl hl (by decide) rfl (fun ls hl => ?_)
          refine lv_aload_n hx hb d_Parser_wantNameWithRoom_60 rfl (lv_at hl 1 rfl) ?_
          refine va_get (D := (dC, dI)) (ci := 3) (v := .ref qf) (C := R_Parser) (T := F_Parser) (N := 4) hx hb hts i_Parser hown hK hP 0 rfl rfl 2 (by decide) (hts _ k_118) (fun _ h9 => h9) rfl d_Parser_wantNameWithRoom_61 ?_
          refine lv_iload_n hx hb d_Parser_wantNameWithRoom_64 rfl (lv_at hl 0 rfl) ?_
          refine nv_if_eq (tgt := 72) hx hb (by omega) d_Parser_wantNameWithRoom_65 (by decide) (fun c_32 => ?_) (fun c_32 => ?_)
          · refine lv_iconst (v := nI 1) hx hb d_Parser_wantNameWithRoom_72 (by decide) ?_
            refine lv_aload_n hx hb d_Parser_wantNameWithRoom_73 rfl (lv_at hl 1 rfl) ?_
            refine va_get (D := (dC, dI)) (ci := 3) (v := .ref qt) (C := R_Parser) (T := F_Parser) (N := 4) hx hb hts i_Parser hown hK hP 0 rfl rfl 1 (by decide) (hts _ k_117) (fun _ h9 => h9) rfl d_Parser_wantNameWithRoom_74 ?_
            refine va_get (D := (dC, dI)) (ci := 1) (v := .ref ql) (C := R_Text) (T := F_Text) (N := 7) hx hb hts i_Text hown hK hP 1 rfl rfl 3 (by decide) (hts _ k_43) (fun _ h9 => h9) rfl d_Parser_wantNameWithRoom_77 ?_
            refine lv_aload_n hx hb d_Parser_wantNameWithRoom_80 rfl (lv_at hl 1 rfl) ?_
            refine va_get (D := (dC, dI)) (ci := 3) (v := .int (nI a)) (C := R_Parser) (T := F_Parser) (N := 4) hx hb hts i_Parser hown hK hP 0 rfl rfl 3 (by decide) (hts _ k_119) (fun _ h9 => h9) rfl d_Parser_wantNameWithRoom_81 ?_
            refine nv_iald hx hb hK hP 3 1 rfl rfl (by omega) (by decide) d_Parser_wantNameWithRoom_84 ?_
            refine wc_i (wc := [(qf, .inr (2, [v0, v1]))]) (wr := [(qp, .inr (3, [.ref qc, .ref qt, .ref qf, .int (nI a)])), (qt, .inr (1, [w0, w1, .ref qk, .ref ql, w4, w5, w6])), (qk, .inl (cI, 1001, .inl fk)), (ql, .inl (cI, 1001, .inl fp))]) (va_runV (As := [.int (nI 1), .int (fp a)]) (rest := []) ⟨hx, hb, hml, hown, hts⟩ (c_Fault_note l dC dI cB cI cL cZ cC cO qf (nI 1) (fp a) _ ) (cwV 2 hts (good_V k_533 k_534 k_535 k_3 k_536) rfl rfl rfl (by decide +kernel) ⟨Nat.le_of_ble_eq_true rfl, Nat.le_of_ble_eq_true rfl⟩) (wc_preV (k0 := 4) (ci := 2) (r := (R_Fault, F_Fault, 2)) hK hP hD hS hA hF [4] (by decide) rfl rfl rfl) rfl rfl hl.1 rfl (lv_room (Nat.le_of_ble_eq_true rfl)) d_Parser_wantNameWithRoom_85 ⟨Nat.le_of_ble_eq_true rfl, Nat.le_of_ble_eq_true rfl⟩) hP hD hS hA [4] [0, 1, 2, 3] rfl rfl (by decide) (by decide) (fun r_34 u H locs w_33 hP hD hS => ?_)
            have hP : va_P (dC, dI) cl [(qp, .inr (3, [.ref qc, .ref qt, .ref qf, .int (nI a)])), (qt, .inr (1, [w0, w1, .ref qk, .ref ql, w4, w5, w6])), (qk, .inl (cI, 1001, .inl fk)), (ql, .inl (cI, 1001, .inl fp)), (qf, .inr (2, [.int (nI 1), .int (fp a)]))] H := hP
            have hD : va_D A [(qp, .inr (3, [.ref qc, .ref qt, .ref qf, .int (nI a)])), (qt, .inr (1, [w0, w1, .ref qk, .ref ql, w4, w5, w6])), (qk, .inl (cI, 1001, .inl fk)), (ql, .inl (cI, 1001, .inl fp)), (qf, .inr (2, [.int (nI 1), .int (fp a)]))] := hD
            subst w_33
            have hok : wn_ok fk a y = false := by first | (simp [wn_ok, c_1]; done) | (simp [wn_ok, c_1, c_19]; done)
            first | exact absurd c_32 (by decide) | exact wr_z (x := false) hx hb hr hlocks (.int (nI 1), .int (fp a)) ⟨congrArg bI hok.symm, by unfold wn_to; rw [if_neg (by rw [hok]; decide)]; first | rw [if_pos gf] | rw [if_neg gf]⟩ hK hP hD hS d_Parser_wantNameWithRoom_88
          · refine lv_iconst (v := nI 2) hx hb d_Parser_wantNameWithRoom_68 (by decide) ?_
            refine lv_goto (tgt := 73) hx hb d_Parser_wantNameWithRoom_69 (by decide) ?_
            refine lv_aload_n hx hb d_Parser_wantNameWithRoom_73 rfl (lv_at hl 1 rfl) ?_
            refine va_get (D := (dC, dI)) (ci := 3) (v := .ref qt) (C := R_Parser) (T := F_Parser) (N := 4) hx hb hts i_Parser hown hK hP 0 rfl rfl 1 (by decide) (hts _ k_117) (fun _ h9 => h9) rfl d_Parser_wantNameWithRoom_74 ?_
            refine va_get (D := (dC, dI)) (ci := 1) (v := .ref ql) (C := R_Text) (T := F_Text) (N := 7) hx hb hts i_Text hown hK hP 1 rfl rfl 3 (by decide) (hts _ k_43) (fun _ h9 => h9) rfl d_Parser_wantNameWithRoom_77 ?_
            refine lv_aload_n hx hb d_Parser_wantNameWithRoom_80 rfl (lv_at hl 1 rfl) ?_
            refine va_get (D := (dC, dI)) (ci := 3) (v := .int (nI a)) (C := R_Parser) (T := F_Parser) (N := 4) hx hb hts i_Parser hown hK hP 0 rfl rfl 3 (by decide) (hts _ k_119) (fun _ h9 => h9) rfl d_Parser_wantNameWithRoom_81 ?_
            refine nv_iald hx hb hK hP 3 1 rfl rfl (by omega) (by decide) d_Parser_wantNameWithRoom_84 ?_
            refine wc_i (wc := [(qf, .inr (2, [v0, v1]))]) (wr := [(qp, .inr (3, [.ref qc, .ref qt, .ref qf, .int (nI a)])), (qt, .inr (1, [w0, w1, .ref qk, .ref ql, w4, w5, w6])), (qk, .inl (cI, 1001, .inl fk)), (ql, .inl (cI, 1001, .inl fp))]) (va_runV (As := [.int (nI 2), .int (fp a)]) (rest := []) ⟨hx, hb, hml, hown, hts⟩ (c_Fault_note l dC dI cB cI cL cZ cC cO qf (nI 2) (fp a) _ ) (cwV 2 hts (good_V k_533 k_534 k_535 k_3 k_536) rfl rfl rfl (by decide +kernel) ⟨Nat.le_of_ble_eq_true rfl, Nat.le_of_ble_eq_true rfl⟩) (wc_preV (k0 := 4) (ci := 2) (r := (R_Fault, F_Fault, 2)) hK hP hD hS hA hF [4] (by decide) rfl rfl rfl) rfl rfl hl.1 rfl (lv_room (Nat.le_of_ble_eq_true rfl)) d_Parser_wantNameWithRoom_85 ⟨Nat.le_of_ble_eq_true rfl, Nat.le_of_ble_eq_true rfl⟩) hP hD hS hA [4] [0, 1, 2, 3] rfl rfl (by decide) (by decide) (fun r_36 u H locs w_35 hP hD hS => ?_)
            have hP : va_P (dC, dI) cl [(qp, .inr (3, [.ref qc, .ref qt, .ref qf, .int (nI a)])), (qt, .inr (1, [w0, w1, .ref qk, .ref ql, w4, w5, w6])), (qk, .inl (cI, 1001, .inl fk)), (ql, .inl (cI, 1001, .inl fp)), (qf, .inr (2, [.int (nI 2), .int (fp a)]))] H := hP
            have hD : va_D A [(qp, .inr (3, [.ref qc, .ref qt, .ref qf, .int (nI a)])), (qt, .inr (1, [w0, w1, .ref qk, .ref ql, w4, w5, w6])), (qk, .inl (cI, 1001, .inl fk)), (ql, .inl (cI, 1001, .inl fp)), (qf, .inr (2, [.int (nI 2), .int (fp a)]))] := hD
            subst w_35
            have hok : wn_ok fk a y = false := by first | (simp [wn_ok, c_1]; done) | (simp [wn_ok, c_1, c_19]; done)
            first | exact absurd c_32 (by decide) | exact wr_z (x := false) hx hb hr hlocks (.int (nI 2), .int (fp a)) ⟨congrArg bI hok.symm, by unfold wn_to; rw [if_neg (by rw [hok]; decide)]; first | rw [if_pos gf] | rw [if_neg gf]⟩ hK hP hD hS d_Parser_wantNameWithRoom_88
    · refine lv_iconst (v := nI 1) hx hb d_Parser_wantNameWithRoom_20 (by decide) ?_
      have hok : wn_ok fk a y = true := by simp [wn_ok, c_1, c_19]
      first | exact absurd c_19 (by decide) | exact wr_z (x := true) hx hb hr hlocks (v0, v1) ⟨congrArg bI hok.symm, by unfold wn_to; rw [if_pos hok]⟩ hK hP hD hS d_Parser_wantNameWithRoom_21
