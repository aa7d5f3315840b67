theorem nI_min {a b : Nat} (ha : a < 2 ^ 31) (hb : b < 2 ^ 31) : (if nI b < nI a then nI b else nI a) = nI (min a b) := by
  by_cases h : b < a
  · rw [if_pos ((nI_ltI hb ha).mpr h), Nat.min_eq_right (by omega)]
  · rw [if_neg (fun q => h ((nI_ltI hb ha).mp q)), Nat.min_eq_left (by omega)]
theorem d_Parser_takeName_0 : decode b_Parser_takeName 0 = .ok (.new 147, 3) := by decide +kernel
theorem d_Parser_takeName_3 : decode b_Parser_takeName 3 = .ok (.dup, 1) := by decide +kernel
theorem d_Parser_takeName_4 : decode b_Parser_takeName 4 = .ok (.aload_n 0, 1) := by decide +kernel
theorem d_Parser_takeName_5 : decode b_Parser_takeName 5 = .ok (.getfield 20, 3) := by decide +kernel
theorem d_Parser_takeName_8 : decode b_Parser_takeName 8 = .ok (.getfield 173, 3) := by decide +kernel
theorem d_Parser_takeName_11 : decode b_Parser_takeName 11 = .ok (.aload_n 0, 1) := by decide +kernel
theorem d_Parser_takeName_12 : decode b_Parser_takeName 12 = .ok (.getfield 16, 3) := by decide +kernel
theorem d_Parser_takeName_15 : decode b_Parser_takeName 15 = .ok (.laload, 1) := by decide +kernel
theorem d_Parser_takeName_16 : decode b_Parser_takeName 16 = .ok (.aload_n 0, 1) := by decide +kernel
theorem d_Parser_takeName_17 : decode b_Parser_takeName 17 = .ok (.getfield 20, 3) := by decide +kernel
theorem d_Parser_takeName_20 : decode b_Parser_takeName 20 = .ok (.getfield 177, 3) := by decide +kernel
theorem d_Parser_takeName_23 : decode b_Parser_takeName 23 = .ok (.aload_n 0, 1) := by decide +kernel
theorem d_Parser_takeName_24 : decode b_Parser_takeName 24 = .ok (.getfield 16, 3) := by decide +kernel
theorem d_Parser_takeName_27 : decode b_Parser_takeName 27 = .ok (.laload, 1) := by decide +kernel
theorem d_Parser_takeName_28 : decode b_Parser_takeName 28 = .ok (.aload_n 0, 1) := by decide +kernel
theorem d_Parser_takeName_29 : decode b_Parser_takeName 29 = .ok (.getfield 20, 3) := by decide +kernel
theorem d_Parser_takeName_32 : decode b_Parser_takeName 32 = .ok (.getfield 96, 3) := by decide +kernel
theorem d_Parser_takeName_35 : decode b_Parser_takeName 35 = .ok (.aload_n 0, 1) := by decide +kernel
theorem d_Parser_takeName_36 : decode b_Parser_takeName 36 = .ok (.getfield 16, 3) := by decide +kernel
theorem d_Parser_takeName_39 : decode b_Parser_takeName 39 = .ok (.iaload, 1) := by decide +kernel
theorem d_Parser_takeName_40 : decode b_Parser_takeName 40 = .ok (.invokespecial 180, 3) := by decide +kernel
theorem d_Parser_takeName_43 : decode b_Parser_takeName 43 = .ok (.astore_n 1, 1) := by decide +kernel
theorem d_Parser_takeName_44 : decode b_Parser_takeName 44 = .ok (.aload_n 0, 1) := by decide +kernel
theorem d_Parser_takeName_45 : decode b_Parser_takeName 45 = .ok (.aload_n 0, 1) := by decide +kernel
theorem d_Parser_takeName_46 : decode b_Parser_takeName 46 = .ok (.getfield 16, 3) := by decide +kernel
theorem d_Parser_takeName_49 : decode b_Parser_takeName 49 = .ok (.iconst 1, 1) := by decide +kernel
theorem d_Parser_takeName_50 : decode b_Parser_takeName 50 = .ok (.iadd, 1) := by decide +kernel
theorem d_Parser_takeName_51 : decode b_Parser_takeName 51 = .ok (.sipush 1000, 3) := by decide +kernel
theorem d_Parser_takeName_54 : decode b_Parser_takeName 54 = .ok (.invokestatic 183, 3) := by decide +kernel
theorem d_Parser_takeName_57 : decode b_Parser_takeName 57 = .ok (.putfield 16, 3) := by decide +kernel
theorem d_Parser_takeName_60 : decode b_Parser_takeName 60 = .ok (.aload_n 1, 1) := by decide +kernel
theorem d_Parser_takeName_61 : decode b_Parser_takeName 61 = .ok (.areturn, 1) := by decide +kernel
set_option maxHeartbeats 4000000 in
set_option maxRecDepth 100000 in
/-- takeName() -/
theorem c_Parser_takeName (l : Launch) (dC : Nat → ClassId) (dI : Nat → Nat → Nat) (cB cI cL cZ cC cO : ClassId) (qp qt ql qh qe : Nat) {v0 v2 w0 w1 w2 w4 : Value} (fp : Nat → Int32) (fh fl : Nat → Int64) (a : Nat) (sz : Nat) (ha : a ≤ 1000) : Met l y_Parser_takeName w_Parser_takeName ({ frames := 2, cells := 1, slots := 3, locals := 60 }) (va_Pc [.ref qp] (wB (dC, dI) cl [(cB, .byte), (cI, .int), (cL, .long), (cZ, .boolean), (cC, .char), (cO, .object "java/lang/Object")] sz [(qp, .inr (3, [v0, .ref qt, v2, .int (nI a)])), (qt, .inr (1, [w0, w1, w2, .ref ql, w4, .ref qh, .ref qe])), (ql, .inl (cI, 1001, .inl fp)), (qh, .inl (cL, 1001, .inr (.inl fh))), (qe, .inl (cL, 1001, .inr (.inl fl)))])) (va_Qq (fun (r : Option Nat) (u : Nat) => r = some u) (fun u t => wA (dC, dI) cl [(cB, .byte), (cI, .int), (cL, .long), (cZ, .boolean), (cC, .char), (cO, .object "java/lang/Object")] (va_A [(qp, .inr (3, [v0, .ref qt, v2, .int (nI a)])), (qt, .inr (1, [w0, w1, w2, .ref ql, w4, .ref qh, .ref qe])), (ql, .inl (cI, 1001, .inl fp)), (qh, .inl (cL, 1001, .inr (.inl fh))), (qe, .inl (cL, 1001, .inr (.inl fl)))] sz) [(qp, .inr (3, [v0, .ref qt, v2, .int (nI (min (a + 1) 1000))])), (qt, .inr (1, [w0, w1, w2, .ref ql, w4, .ref qh, .ref qe])), (ql, .inl (cI, 1001, .inl fp)), (qh, .inl (cL, 1001, .inr (.inl fh))), (qe, .inl (cL, 1001, .inr (.inl fl))), (u, .inr (7, [.long (fh a), .long (fl a), .int (fp a)]))] t) (va_A [(qp, .inr (3, [v0, .ref qt, v2, .int (nI a)])), (qt, .inr (1, [w0, w1, w2, .ref ql, w4, .ref qh, .ref qe])), (ql, .inl (cI, 1001, .inl fp)), (qh, .inl (cL, 1001, .inr (.inl fh))), (qe, .inl (cL, 1001, .inr (.inl fl)))] sz)) 1 3 (va_A [(qp, .inr (3, [v0, .ref qt, v2, .int (nI a)])), (qt, .inr (1, [w0, w1, w2, .ref ql, w4, .ref qh, .ref qe])), (ql, .inl (cI, 1001, .inl fp)), (qh, .inl (cL, 1001, .inr (.inl fh))), (qe, .inl (cL, 1001, .inr (.inl fl)))] sz) := by
  refine Met.ofW (cc := b_Parser_takeName) (maxL := 2) (ret := (some (ClassFile.FieldType.object "ChipDesk$Name"))) (by decide) rfl ?_
  intro p e s m args below meth c s₁ B hml hv
  obtain ⟨rfl, hsz, hP, hK, hD0, hF⟩ := hv
  have hx := B.exec
  have hb := B.bytes
  have hr := B.returns
  have hts := atoms_spec (ws := w_Parser_takeName) B.pre
  have hts : ∀ w ∈ tb, w.before _ s = true := fun w h => hts w (List.mem_cons_of_mem _ h)
  have hown : s.vm.findClass R_Parser = some m.cls := findClass_of_methodNamed B.named
  have hlocks := B.notSynchronized
  subst hsz
  have hD := hD0.self (sz := s.heap.size)
  generalize hAe : va_A [(qp, .inr (3, [v0, .ref qt, v2, .int (nI a)])), (qt, .inr (1, [w0, w1, w2, .ref ql, w4, .ref qh, .ref qe])), (ql, .inl (cI, 1001, .inl fp)), (qh, .inl (cL, 1001, .inr (.inl fh))), (qe, .inl (cL, 1001, .inr (.inl fl)))] s.heap.size = A at hD hF ⊢
  have hA : ∀ q : Nat, s.heap.size ≤ q → A q := fun q h => by rw [← hAe]; exact Or.inr h
  have hS : va_S A s.heap s.heap [] := va_S.rf
  have hP : va_P (dC, dI) cl [(qp, .inr (3, [v0, .ref qt, v2, .int (nI a)])), (qt, .inr (1, [w0, w1, w2, .ref ql, w4, .ref qh, .ref qe])), (ql, .inl (cI, 1001, .inl fp)), (qh, .inl (cL, 1001, .inr (.inl fh))), (qe, .inl (cL, 1001, .inr (.inl fl)))] s.heap := hP
  have hl := lv_entry ([.ref qp]) (n := 2) (Nat.le_of_ble_eq_true rfl)
  rw [lg_entry_eq]
  generalize (lg_sl ([.ref qp]) ++ List.replicate (2 - (lg_sl ([.ref qp])).length) Slot.unset).toArray = ls at hl ⊢
  have hl : lv_has ls 2 [(0, .ref qp)] := hl
  refine va_new (ci := 7) (fs := [.long 0, .long 0, .int 0]) (C := R_Name) (T := F_Name) (N := 3) hx hb hts i_Name t_Name t_Name_ok hown (hts _ k_547) (hts _ k_141) (hts _ k_10) hK hP hD hS hA rfl (fun j hj => by rcases (show j = 0 ∨ j = 1 ∨ j = 2 by omega) with rfl | rfl | rfl <;> rfl) (Nat.le_of_ble_eq_true rfl) (Nat.le_of_ble_eq_true rfl) d_Parser_takeName_0 (fun q_1 H hP hD hS => ?_)
  have hP : va_P (dC, dI) cl [(qp, .inr (3, [v0, .ref qt, v2, .int (nI a)])), (qt, .inr (1, [w0, w1, w2, .ref ql, w4, .ref qh, .ref qe])), (ql, .inl (cI, 1001, .inl fp)), (qh, .inl (cL, 1001, .inr (.inl fh))), (qe, .inl (cL, 1001, .inr (.inl fl))), (q_1, .inr (7, [.long 0, .long 0, .int 0]))] H := hP
  have hD : va_D A [(qp, .inr (3, [v0, .ref qt, v2, .int (nI a)])), (qt, .inr (1, [w0, w1, w2, .ref ql, w4, .ref qh, .ref qe])), (ql, .inl (cI, 1001, .inl fp)), (qh, .inl (cL, 1001, .inr (.inl fh))), (qe, .inl (cL, 1001, .inr (.inl fl))), (q_1, .inr (7, [.long 0, .long 0, .int 0]))] := hD
  refine lv_dup hx hb d_Parser_takeName_3 rfl ?_
  refine lv_aload_n hx hb d_Parser_takeName_4 rfl (lv_at hl 0 rfl) ?_
  refine va_get (D := (dC, dI)) (ci := 3) (v := .ref qt) (C := R_Parser) (T := F_Parser) (N := 4) hx hb hts i_Parser hown hK hP 0 rfl rfl 1 (by decide) (hts _ k_117) (fun _ h9 => h9) rfl d_Parser_takeName_5 ?_
  refine va_get (D := (dC, dI)) (ci := 1) (v := .ref qh) (C := R_Text) (T := F_Text) (N := 7) hx hb hts i_Text hown hK hP 1 rfl rfl 5 (by decide) (hts _ k_47) (fun _ h9 => h9) rfl d_Parser_takeName_8 ?_
  refine lv_aload_n hx hb d_Parser_takeName_11 rfl (lv_at hl 0 rfl) ?_
  refine va_get (D := (dC, dI)) (ci := 3) (v := .int (nI a)) (C := R_Parser) (T := F_Parser) (N := 4) hx hb hts i_Parser hown hK hP 0 rfl rfl 3 (by decide) (hts _ k_119) (fun _ h9 => h9) rfl d_Parser_takeName_12 ?_
  refine nv_lald hx hb hK hP 3 2 rfl rfl (by omega) (by decide) d_Parser_takeName_15 ?_
  refine lv_aload_n hx hb d_Parser_takeName_16 rfl (lv_at hl 0 rfl) ?_
  refine va_get (D := (dC, dI)) (ci := 3) (v := .ref qt) (C := R_Parser) (T := F_Parser) (N := 4) hx hb hts i_Parser hown hK hP 0 rfl rfl 1 (by decide) (hts _ k_117) (fun _ h9 => h9) rfl d_Parser_takeName_17 ?_
  refine va_get (D := (dC, dI)) (ci := 1) (v := .ref qe) (C := R_Text) (T := F_Text) (N := 7) hx hb hts i_Text hown hK hP 1 rfl rfl 6 (by decide) (hts _ k_49) (fun _ h9 => h9) rfl d_Parser_takeName_20 ?_
  refine lv_aload_n hx hb d_Parser_takeName_23 rfl (lv_at hl 0 rfl) ?_
  refine va_get (D := (dC, dI)) (ci := 3) (v := .int (nI a)) (C := R_Parser) (T := F_Parser) (N := 4) hx hb hts i_Parser hown hK hP 0 rfl rfl 3 (by decide) (hts _ k_119) (fun _ h9 => h9) rfl d_Parser_takeName_24 ?_
  refine nv_lald hx hb hK hP 4 2 rfl rfl (by omega) (by decide) d_Parser_takeName_27 ?_
  refine lv_aload_n hx hb d_Parser_takeName_28 rfl (lv_at hl 0 rfl) ?_
  refine va_get (D := (dC, dI)) (ci := 3) (v := .ref qt) (C := R_Parser) (T := F_Parser) (N := 4) hx hb hts i_Parser hown hK hP 0 rfl rfl 1 (by decide) (hts _ k_117) (fun _ h9 => h9) rfl d_Parser_takeName_29 ?_
  refine va_get (D := (dC, dI)) (ci := 1) (v := .ref ql) (C := R_Text) (T := F_Text) (N := 7) hx hb hts i_Text hown hK hP 1 rfl rfl 3 (by decide) (hts _ k_43) (fun _ h9 => h9) rfl d_Parser_takeName_32 ?_
  refine lv_aload_n hx hb d_Parser_takeName_35 rfl (lv_at hl 0 rfl) ?_
  refine va_get (D := (dC, dI)) (ci := 3) (v := .int (nI a)) (C := R_Parser) (T := F_Parser) (N := 4) hx hb hts i_Parser hown hK hP 0 rfl rfl 3 (by decide) (hts _ k_119) (fun _ h9 => h9) rfl d_Parser_takeName_36 ?_
  refine nv_iald hx hb hK hP 2 1 rfl rfl (by omega) (by decide) d_Parser_takeName_39 ?_
  refine wc_v (wc := [(q_1, .inr (7, [.long 0, .long 0, .int 0]))]) (wr := [(qp, .inr (3, [v0, .ref qt, v2, .int (nI a)])), (qt, .inr (1, [w0, w1, w2, .ref ql, w4, .ref qh, .ref qe])), (ql, .inl (cI, 1001, .inl fp)), (qh, .inl (cL, 1001, .inr (.inl fh))), (qe, .inl (cL, 1001, .inr (.inl fl)))]) (va_runI (As := [.long (fh a), .long (fl a), .int (fp a)]) (rest := [.ref q_1]) ⟨hx, hb, hml, hown, hts⟩ (c_Name_init l dC dI cB cI cL cZ cC cO q_1 (fh a) (fl a) (fp a) _ ) (cwI 3 hts (good_c k_145) rfl rfl rfl (hts _ k_10) (hts _ k_548) (hts _ k_144) rfl (by decide +kernel) ⟨Nat.le_of_ble_eq_true rfl, Nat.le_of_ble_eq_true rfl⟩) (wc_preS hK hP hD hS hA hF [5] (by decide) rfl) rfl rfl hl.1 rfl (lv_room (Nat.le_of_ble_eq_true rfl)) d_Parser_takeName_40 ⟨Nat.le_of_ble_eq_true rfl, Nat.le_of_ble_eq_true rfl⟩) hP hD hS hA [5] [0, 1, 2, 3, 4] rfl rfl (by decide) (by decide) (fun u H locs w_2 hP hD hS => ?_)
  have hP : va_P (dC, dI) cl [(qp, .inr (3, [v0, .ref qt, v2, .int (nI a)])), (qt, .inr (1, [w0, w1, w2, .ref ql, w4, .ref qh, .ref qe])), (ql, .inl (cI, 1001, .inl fp)), (qh, .inl (cL, 1001, .inr (.inl fh))), (qe, .inl (cL, 1001, .inr (.inl fl))), (q_1, .inr (7, [.long (fh a), .long (fl a), .int (fp a)]))] H := hP
  have hD : va_D A [(qp, .inr (3, [v0, .ref qt, v2, .int (nI a)])), (qt, .inr (1, [w0, w1, w2, .ref ql, w4, .ref qh, .ref qe])), (ql, .inl (cI, 1001, .inl fp)), (qh, .inl (cL, 1001, .inr (.inl fh))), (qe, .inl (cL, 1001, .inr (.inl fl))), (q_1, .inr (7, [.long (fh a), .long (fl a), .int (fp a)]))] := hD
  refine lv_astore_n (lv' := [(1, .ref q_1), (0, .ref qp)]) hx hb d_Parser_takeName_43 rfl hl (by decide) rfl (fun ls hl => ?_)
  refine lv_aload_n hx hb d_Parser_takeName_44 rfl (lv_at hl 1 rfl) ?_
  refine lv_aload_n hx hb d_Parser_takeName_45 rfl (lv_at hl 1 rfl) ?_
  refine va_get (D := (dC, dI)) (ci := 3) (v := .int (nI a)) (C := R_Parser) (T := F_Parser) (N := 4) hx hb hts i_Parser hown hK hP 0 rfl rfl 3 (by decide) (hts _ k_119) (fun _ h9 => h9) rfl d_Parser_takeName_46 ?_
  refine lv_iconst (v := nI 1) hx hb d_Parser_takeName_49 (by decide) ?_
  refine nv_iadd hx hb d_Parser_takeName_50 ?_
  refine lv_sipush (v := nI 1000) hx hb d_Parser_takeName_51 (by decide) ?_
  refine va_mmin hx hb (by rw [hml]; exact hl.1.symm) hown (hts _ k_549) (hts _ k_308) (hts _ k_13) (hts _ k_309) (Nat.le_of_ble_eq_true rfl) (Nat.le_of_ble_eq_true rfl) (Nat.le_of_ble_eq_true rfl) (Nat.le_of_ble_eq_true rfl) d_Parser_takeName_54 ?_
  rw [show (if nI 1000 < nI (a + 1) then nI 1000 else nI (a + 1)) = nI (min (a + 1) 1000) from nI_min (by omega) (by omega)]
  refine va_put (D := (dC, dI)) (ci := 3) (v := .int (nI (min (a + 1) 1000))) (ty := .int) (C := R_Parser) (T := F_Parser) (N := 4) hx hb hts i_Parser t_Parser t_Parser_ok n_Parser hown hK hP hD hS 0 rfl rfl 3 (by decide) (hts _ k_119) (fun _ h9 => h9) rfl (by decide +kernel) rfl rfl (Nat.le_of_ble_eq_true rfl) d_Parser_takeName_57 (fun H locs hP hD hS => ?_)
  have hP : va_P (dC, dI) cl [(qp, .inr (3, [v0, .ref qt, v2, .int (nI (min (a + 1) 1000))])), (qt, .inr (1, [w0, w1, w2, .ref ql, w4, .ref qh, .ref qe])), (ql, .inl (cI, 1001, .inl fp)), (qh, .inl (cL, 1001, .inr (.inl fh))), (qe, .inl (cL, 1001, .inr (.inl fl))), (q_1, .inr (7, [.long (fh a), .long (fl a), .int (fp a)]))] H := hP
  have hD : va_D A [(qp, .inr (3, [v0, .ref qt, v2, .int (nI (min (a + 1) 1000))])), (qt, .inr (1, [w0, w1, w2, .ref ql, w4, .ref qh, .ref qe])), (ql, .inl (cI, 1001, .inl fp)), (qh, .inl (cL, 1001, .inr (.inl fh))), (qe, .inl (cL, 1001, .inr (.inl fl))), (q_1, .inr (7, [.long (fh a), .long (fl a), .int (fp a)]))] := hD
  refine lv_aload_n hx hb d_Parser_takeName_60 rfl (lv_at hl 0 rfl) ?_
  exact wr_q (r := some q_1) hx hb hr ⟨_, rfl⟩ hlocks q_1 rfl hK hP hD hS d_Parser_takeName_61
