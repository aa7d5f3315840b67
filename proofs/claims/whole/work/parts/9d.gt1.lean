theorem fo_z {G G1 : PG} {q : Nat} (fo : ∀ b, G.1 b ≠ 0 → gs G G1 b) (h : G1.1 q = 0) : G.1 q = 0 := Classical.byContradiction (fun h9 => h9 ((fo q h9).1.symm.trans h))
theorem d_Chip_outOfGate_0 : decode b_Chip_outOfGate 0 = .ok (.new 54, 3) := by decide +kernel
theorem d_Chip_outOfGate_3 : decode b_Chip_outOfGate 3 = .ok (.dup, 1) := by decide +kernel
theorem d_Chip_outOfGate_4 : decode b_Chip_outOfGate 4 = .ok (.new 42, 3) := by decide +kernel
theorem d_Chip_outOfGate_7 : decode b_Chip_outOfGate 7 = .ok (.dup, 1) := by decide +kernel
theorem d_Chip_outOfGate_8 : decode b_Chip_outOfGate 8 = .ok (.ldc2_w 78, 3) := by decide +kernel
theorem d_Chip_outOfGate_11 : decode b_Chip_outOfGate 11 = .ok (.lconst 0, 1) := by decide +kernel
theorem d_Chip_outOfGate_12 : decode b_Chip_outOfGate 12 = .ok (.iconst (-1), 1) := by decide +kernel
theorem d_Chip_outOfGate_13 : decode b_Chip_outOfGate 13 = .ok (.invokespecial 48, 3) := by decide +kernel
theorem d_Chip_outOfGate_16 : decode b_Chip_outOfGate 16 = .ok (.iconst 1, 1) := by decide +kernel
theorem d_Chip_outOfGate_17 : decode b_Chip_outOfGate 17 = .ok (.invokespecial 58, 3) := by decide +kernel
theorem d_Chip_outOfGate_20 : decode b_Chip_outOfGate 20 = .ok (.areturn, 1) := by decide +kernel
set_option maxHeartbeats 4000000 in
set_option maxRecDepth 100000 in
/-- outOfGate() -/
theorem p_Chip_outOfGate (l : Launch) (dC : Nat → ClassId) (dI : Nat → Nat → Nat) (cB cI cL cZ cC cO : ClassId) {L : List Nat} {G : PG} (t0 sz : Nat) (hL : gL L G) : Met l y_Chip_outOfGate w_Chip_outOfGate ({ frames := 3, cells := 2, slots := 10, locals := 60 }) (va_Pc [] (wB2 (dC, dI) cl [(cB, .byte), (cI, .int), (cL, .long), (cZ, .boolean), (cC, .char), (cO, .object "java/lang/Object")] sz t0 ([] ++ va_pl L (gE cO G)))) (va_Qq (fun (r : Option Nat) (u : List Nat × PG) => ∃ w nm, r = some w ∧ G.1 w = 0 ∧ G.1 nm = 0 ∧ isN u.2 nm 7304564 0 none ∧ isW u.2 w nm 1 ∧ gL u.1 u.2 ∧ ∀ b, G.1 b ≠ 0 → gs G u.2 b) (fun u t => wA (dC, dI) cl [(cB, .byte), (cI, .int), (cL, .long), (cZ, .boolean), (cC, .char), (cO, .object "java/lang/Object")] (va_A ([] ++ va_pl L (gE cO G)) sz) ([] ++ va_pl u.1 (gE cO u.2)) t) (va_A ([] ++ va_pl L (gE cO G)) sz)) 2 10 (va_A ([] ++ va_pl L (gE cO G)) sz) := by
  refine Met.ofW (cc := b_Chip_outOfGate) (maxL := 0) (ret := (some (ClassFile.FieldType.object "ChipDesk$Wire"))) (by decide) rfl ?_
  intro p e s m args below meth c s₁ B hml hv
  obtain ⟨rfl, ⟨hsz, hP, hK, hD0, hF⟩, hE⟩ := hv
  have hx := B.exec
  have hb := B.bytes
  have hr := B.returns
  have hts := atoms_spec (ws := w_Chip_outOfGate) B.pre
  have hts : ∀ w ∈ tb, w.before _ s = true := fun w h => hts w (List.mem_cons_of_mem _ h)
  have hown : s.vm.findClass R_Chip = some m.cls := findClass_of_methodNamed B.named
  have hlocks := B.notSynchronized
  subst hsz
  have hD := hD0.self (sz := s.heap.size)
  generalize hAe : va_A ([] ++ va_pl L (gE cO G)) s.heap.size = A at hD hF hE ⊢
  have hA : ∀ q : Nat, s.heap.size ≤ q → A q := fun q h => by rw [← hAe]; exact Or.inr h
  have hS : va_S A s.heap s.heap [] := va_S.rf
  have hP : va_P (dC, dI) cl ([] ++ va_pl L (gE cO G)) s.heap := hP
  have hl := lv_entry ([]) (n := 0) (Nat.le_of_ble_eq_true rfl)
  rw [lg_entry_eq]
  generalize (lg_sl ([]) ++ List.replicate (0 - (lg_sl ([])).length) Slot.unset).toArray = ls at hl ⊢
  have hl : lv_has ls 0 [] := hl
  have fo : ∀ b, G.1 b ≠ 0 → gs G G b := fun b _ => gs.rf G b
  refine pq_new (ci := 8) (fs := [.null, .int (nI 0), .int (nI 0), .int (nI 0), .int (nI 0), .int (nI 0), .int (nI 0)]) (C := R_Wire) (T := F_Wire) (N := 7) (fn := fun q9 => gE cO (g0 G q9 2)) hx hb hts i_Wire t_Wire t_Wire_ok hown (hts _ k_207) (hts _ k_208) (hts _ k_11) hK hP hD hS hA rfl (fun j hj => by rcases (show j = 0 ∨ j = 1 ∨ j = 2 ∨ j = 3 ∨ j = 4 ∨ j = 5 ∨ j = 6 by omega) with rfl | rfl | rfl | rfl | rfl | rfl | rfl <;> rfl) (Nat.le_of_ble_eq_true rfl) (Nat.le_of_ble_eq_true rfl) (fun q9 => nE_2 (G := G) q9) d_Chip_outOfGate_0 (fun q_1 H nq_1 hP hD hS => ?_)
  have hL0 := hL
  have hz9 : G.1 q_1 = 0 := g0_n hL nq_1
  replace hL := gL_new (a := q_1) (n := 2) hL
  have hP : va_P (dC, dI) cl ([] ++ va_pl (L ++ [q_1]) (gE cO (g0 G q_1 2))) H := hP
  have hD : va_D A ([] ++ va_pl (L ++ [q_1]) (gE cO (g0 G q_1 2))) := hD
  refine lv_dup hx hb d_Chip_outOfGate_3 rfl ?_
  have hz_q_1 : G.1 q_1 = 0 := hz9
  refine pq_new (ci := 7) (fs := [.long 0, .long 0, .int (nI 0)]) (C := R_Name) (T := F_Name) (N := 3) (fn := fun q9 => gE cO (g0 (g0 G q_1 2) q9 1)) hx hb hts i_Name t_Name t_Name_ok hown (hts _ k_140) (hts _ k_141) (hts _ k_10) hK hP hD hS hA rfl (fun j hj => by rcases (show j = 0 ∨ j = 1 ∨ j = 2 by omega) with rfl | rfl | rfl <;> rfl) (Nat.le_of_ble_eq_true rfl) (Nat.le_of_ble_eq_true rfl) (fun q9 => nE_1 (G := (g0 G q_1 2)) q9) d_Chip_outOfGate_4 (fun q_2 H nq_2 hP hD hS => ?_)
  have kf_3 : (g0 (g0 G q_1 2) q_2 1).1 q_1 = 2 := (g0_k hL (g0_q G q_1 2) (by decide) nq_2)
  have ne_4 : q_1 ≠ q_2 := g0_ne hL (g0_q G q_1 2) (by decide) nq_2
  have hL0 := hL
  have hz9 : (g0 G q_1 2).1 q_2 = 0 := g0_n hL nq_2
  replace hL := gL_new (a := q_2) (n := 1) hL
  have hP : va_P (dC, dI) cl ([] ++ va_pl (L ++ [q_1] ++ [q_2]) (gE cO (g0 (g0 G q_1 2) q_2 1))) H := hP
  have hD : va_D A ([] ++ va_pl (L ++ [q_1] ++ [q_2]) (gE cO (g0 (g0 G q_1 2) q_2 1))) := hD
  refine lv_dup hx hb d_Chip_outOfGate_7 rfl ?_
  refine lv_ldc2 (v := 7304564) hx hb hown (hts _ k_319) d_Chip_outOfGate_8 ?_
  refine lv_lconst (v := 0) hx hb d_Chip_outOfGate_11 (by decide) ?_
  refine lv_iconst (v := (-1)) hx hb d_Chip_outOfGate_12 (by decide) ?_
  have hz_q_2 : (g0 G q_1 2).1 q_2 = 0 := hz9
  have hN := isN_new (q := q_2) (hh := 7304564) (tt := 0) (pl := none) hL0
  refine wd_v (cx := []) (wr := []) (pl := va_pl (L ++ [q_1] ++ [q_2]) (gE cO (g0 (g0 G q_1 2) q_2 1))) (va_runI (As := [.long 7304564, .long 0, .int (oI none)]) (rest := [.ref q_2, .ref q_1, .ref q_1]) ⟨hx, hb, hml, hown, hts⟩ (p_Name_init l dC dI cB cI cL cZ cC cO (G := g0 (g0 G q_1 2) q_2 1) q_2 7304564 0 none t0 _ hL (g0_q (g0 G q_1 2) q_2 1)) (cwI 3 hts (good_c k_145) rfl rfl rfl (hts _ k_10) (hts _ k_143) (hts _ k_144) rfl (by decide +kernel) ⟨Nat.le_of_ble_eq_true rfl, Nat.le_of_ble_eq_true rfl⟩) (wd_preS hK hP hD hS hA hF hE [] (by decide) rfl) rfl rfl hl.1 rfl (lv_room (Nat.le_of_ble_eq_true rfl)) d_Chip_outOfGate_13 ⟨Nat.le_of_ble_eq_true rfl, Nat.le_of_ble_eq_true rfl⟩) hP hD hS hA [] [] rfl rfl (by decide) (by decide) (fun _ H locs w_6 hP hD hS => ?_)
  have hP : va_P (dC, dI) cl ([] ++ va_pl (L ++ [q_1] ++ [q_2]) (gE cO (nam (g0 G q_1 2) q_2 7304564 0 none))) H := hP
  have hD : va_D A ([] ++ va_pl (L ++ [q_1] ++ [q_2]) (gE cO (nam (g0 G q_1 2) q_2 7304564 0 none))) := hD
  generalize nam (g0 G q_1 2) q_2 7304564 0 none = N_5 at hP hD hN
  obtain ⟨in_q_2, hL, hfN⟩ := hN
  refine lv_iconst (v := nI 1) hx hb d_Chip_outOfGate_16 (by decide) ?_
  have kq : N_5.1 q_1 = 2 := (hfN q_1 (fun e9 => by have q9 := hz_q_2; rw [← e9, g0_q] at q9; cases q9)).1.trans (g0_q _ _ _)
  refine wd_v (cx := []) (wr := []) (pl := va_pl (L ++ [q_1] ++ [q_2]) (gE cO N_5)) (va_runI (As := [.ref q_2, .int (nI 1)]) (rest := [.ref q_1]) ⟨hx, hb, hml, hown, hts⟩ (p_Wire_init l dC dI cB cI cL cZ cC cO (G := N_5) q_1 q_2 1 t0 _ hL kq) (cwI 2 hts (good_c k_212) rfl rfl rfl (hts _ k_11) (hts _ k_210) (hts _ k_211) rfl (by decide +kernel) ⟨Nat.le_of_ble_eq_true rfl, Nat.le_of_ble_eq_true rfl⟩) (wd_preS hK hP hD hS hA hF hE [] (by decide) rfl) rfl rfl hl.1 rfl (lv_room (Nat.le_of_ble_eq_true rfl)) d_Chip_outOfGate_17 ⟨Nat.le_of_ble_eq_true rfl, Nat.le_of_ble_eq_true rfl⟩) hP hD hS hA [] [] rfl rfl (by decide) (by decide) (fun _ H locs w_8 hP hD hS => ?_)
  have hP : va_P (dC, dI) cl ([] ++ va_pl (L ++ [q_1] ++ [q_2]) (gE cO (wir N_5 q_1 q_2 1))) H := hP
  have hD : va_D A ([] ++ va_pl (L ++ [q_1] ++ [q_2]) (gE cO (wir N_5 q_1 q_2 1))) := hD
  have iw_q_1 := isW_of (nm := q_2) (k := 1) kq
  have hqn : q_1 ≠ q_2 := fun e9 => by have q9 := kq; rw [e9, in_q_2.1] at q9; cases q9
  have in_q_2 : isN (wir N_5 q_1 q_2 1) q_2 _ _ _ := in_q_2.keep (wir_gs (Ne.symm hqn))
  have hy_q_2 : G.1 q_2 = 0 := by have q9 := hz_q_2; rw [(gs_0 (Ne.symm hqn)).1] at q9; exact q9
  have hfr : ∀ b, G.1 b ≠ 0 → gs G (wir N_5 q_1 q_2 1) b := fun b h9 => ((gs_0 (fun e9 => h9 (by rw [e9]; exact hz_q_1))).tr (hfN b (fun e9 => h9 (by rw [e9]; exact hy_q_2)))).tr (wir_gs (fun e9 => h9 (by rw [e9]; exact hz_q_1)))
  have hL : gL (L ++ [q_1] ++ [q_2]) (wir N_5 q_1 q_2 1) := hL
  generalize wir N_5 q_1 q_2 1 = G_10 at hP hD iw_q_1 in_q_2 hfr hL
  have fr_q_1 : G.1 q_1 = 0 := fo_z fo hz_q_1
  have fr_q_2 : G.1 q_2 = 0 := fo_z fo hy_q_2
  have fo : ∀ b, G.1 b ≠ 0 → gs G G_10 b := fun b h9 => (fo b h9).tr (hfr b (by rw [(fo b h9).1]; exact h9))
  exact wr_q (r := some q_1) hx hb hr ⟨_, rfl⟩ hlocks (L ++ [q_1] ++ [q_2], G_10) ⟨q_1, q_2, rfl, fr_q_1, fr_q_2, in_q_2, iw_q_1, hL, fo⟩ hK hP hD hS d_Chip_outOfGate_20
theorem d_Chip_nand_0 : decode b_Chip_nand 0 = .ok (.new 11, 3) := by decide +kernel
theorem d_Chip_nand_3 : decode b_Chip_nand 3 = .ok (.dup, 1) := by decide +kernel
theorem d_Chip_nand_4 : decode b_Chip_nand 4 = .ok (.new 42, 3) := by decide +kernel
theorem d_Chip_nand_7 : decode b_Chip_nand 7 = .ok (.dup, 1) := by decide +kernel
theorem d_Chip_nand_8 : decode b_Chip_nand 8 = .ok (.ldc2_w 44, 3) := by decide +kernel
theorem d_Chip_nand_11 : decode b_Chip_nand 11 = .ok (.lconst 0, 1) := by decide +kernel
theorem d_Chip_nand_12 : decode b_Chip_nand 12 = .ok (.iconst (-1), 1) := by decide +kernel
theorem d_Chip_nand_13 : decode b_Chip_nand 13 = .ok (.invokespecial 48, 3) := by decide +kernel
theorem d_Chip_nand_16 : decode b_Chip_nand 16 = .ok (.iconst 1, 1) := by decide +kernel
theorem d_Chip_nand_17 : decode b_Chip_nand 17 = .ok (.iconst 0, 1) := by decide +kernel
theorem d_Chip_nand_18 : decode b_Chip_nand 18 = .ok (.invokespecial 51, 3) := by decide +kernel
theorem d_Chip_nand_21 : decode b_Chip_nand 21 = .ok (.astore_n 0, 1) := by decide +kernel
theorem d_Chip_nand_22 : decode b_Chip_nand 22 = .ok (.aload_n 0, 1) := by decide +kernel
theorem d_Chip_nand_23 : decode b_Chip_nand 23 = .ok (.new 54, 3) := by decide +kernel
theorem d_Chip_nand_26 : decode b_Chip_nand 26 = .ok (.dup, 1) := by decide +kernel
theorem d_Chip_nand_27 : decode b_Chip_nand 27 = .ok (.new 42, 3) := by decide +kernel
theorem d_Chip_nand_30 : decode b_Chip_nand 30 = .ok (.dup, 1) := by decide +kernel
theorem d_Chip_nand_31 : decode b_Chip_nand 31 = .ok (.ldc2_w 56, 3) := by decide +kernel
theorem d_Chip_nand_34 : decode b_Chip_nand 34 = .ok (.lconst 0, 1) := by decide +kernel
theorem d_Chip_nand_35 : decode b_Chip_nand 35 = .ok (.iconst (-1), 1) := by decide +kernel
theorem d_Chip_nand_36 : decode b_Chip_nand 36 = .ok (.invokespecial 48, 3) := by decide +kernel
theorem d_Chip_nand_39 : decode b_Chip_nand 39 = .ok (.iconst 0, 1) := by decide +kernel
theorem d_Chip_nand_40 : decode b_Chip_nand 40 = .ok (.invokespecial 58, 3) := by decide +kernel
theorem d_Chip_nand_43 : decode b_Chip_nand 43 = .ok (.invokevirtual 61, 3) := by decide +kernel
theorem d_Chip_nand_46 : decode b_Chip_nand 46 = .ok (.aload_n 0, 1) := by decide +kernel
theorem d_Chip_nand_47 : decode b_Chip_nand 47 = .ok (.new 54, 3) := by decide +kernel
theorem d_Chip_nand_50 : decode b_Chip_nand 50 = .ok (.dup, 1) := by decide +kernel
theorem d_Chip_nand_51 : decode b_Chip_nand 51 = .ok (.new 42, 3) := by decide +kernel
theorem d_Chip_nand_54 : decode b_Chip_nand 54 = .ok (.dup, 1) := by decide +kernel
theorem d_Chip_nand_55 : decode b_Chip_nand 55 = .ok (.ldc2_w 65, 3) := by decide +kernel
theorem d_Chip_nand_58 : decode b_Chip_nand 58 = .ok (.lconst 0, 1) := by decide +kernel
theorem d_Chip_nand_59 : decode b_Chip_nand 59 = .ok (.iconst (-1), 1) := by decide +kernel
theorem d_Chip_nand_60 : decode b_Chip_nand 60 = .ok (.invokespecial 48, 3) := by decide +kernel
theorem d_Chip_nand_63 : decode b_Chip_nand 63 = .ok (.iconst 0, 1) := by decide +kernel
theorem d_Chip_nand_64 : decode b_Chip_nand 64 = .ok (.invokespecial 58, 3) := by decide +kernel
theorem d_Chip_nand_67 : decode b_Chip_nand 67 = .ok (.invokevirtual 61, 3) := by decide +kernel
theorem d_Chip_nand_70 : decode b_Chip_nand 70 = .ok (.aload_n 0, 1) := by decide +kernel
theorem d_Chip_nand_71 : decode b_Chip_nand 71 = .ok (.invokestatic 67, 3) := by decide +kernel
theorem d_Chip_nand_74 : decode b_Chip_nand 74 = .ok (.invokevirtual 61, 3) := by decide +kernel
theorem d_Chip_nand_77 : decode b_Chip_nand 77 = .ok (.aload_n 0, 1) := by decide +kernel
theorem d_Chip_nand_78 : decode b_Chip_nand 78 = .ok (.invokevirtual 71, 3) := by decide +kernel
theorem d_Chip_nand_81 : decode b_Chip_nand 81 = .ok (.aload_n 0, 1) := by decide +kernel
theorem d_Chip_nand_82 : decode b_Chip_nand 82 = .ok (.areturn, 1) := by decide +kernel
set_option maxHeartbeats 4000000 in
set_option maxRecDepth 100000 in
/-- Chip_nand -/
theorem p_Chip_nand (l : Launch) (dC : Nat → ClassId) (dI : Nat → Nat → Nat) (cB cI cL cZ cC cO : ClassId) {L : List Nat} {G : PG} (t0 sz : Nat) (hL : gL L G)  : Met l y_Chip_nand w_Chip_nand ({ frames := 9, cells := 40, slots := 3000, locals := 560 }) (va_Pc [] (wB2 (dC, dI) cl [(cB, .byte), (cI, .int), (cL, .long), (cZ, .boolean), (cC, .char), (cO, .object "java/lang/Object")] sz t0 ([] ++ va_pl L (gE cO G)))) (va_Qq (fun (r : Option Nat) (u : List Nat × PG) => ∃ q nm la lb lc w0 w1 w2 n0 n1 n2, r = some q ∧ GPx t0 u.2 q nm la lb lc 1 2 3 1315008100 [w0, w1, w2] [n0, n1, n2] [0, 0, 1] [0, 1, 2] [97, 98, 7304564] ∧ gL u.1 u.2 ∧ (G.1 q = 0 ∧ G.1 la = 0 ∧ G.1 lb = 0 ∧ G.1 lc = 0 ∧ frh G nm ∧ frh G w0 ∧ frh G w1 ∧ frh G w2 ∧ frh G n0 ∧ frh G n1 ∧ frh G n2) ∧ (la ≠ lb ∧ la ≠ lc ∧ lb ≠ lc) ∧ (w0 ≠ w1 ∧ w0 ≠ w2 ∧ w1 ≠ w2) ∧ (nm ≠ n0 ∧ nm ≠ n1 ∧ nm ≠ n2 ∧ n0 ≠ n1 ∧ n0 ≠ n2 ∧ n1 ≠ n2) ∧ LFs G u.2 (fun b => b = la ∨ b = q)) (fun u t => wA (dC, dI) cl [(cB, .byte), (cI, .int), (cL, .long), (cZ, .boolean), (cC, .char), (cO, .object "java/lang/Object")] (va_A ([] ++ va_pl L (gE cO G)) sz) ([] ++ va_pl u.1 (gE cO u.2)) t) (va_A ([] ++ va_pl L (gE cO G)) sz)) 40 3000 (va_A ([] ++ va_pl L (gE cO G)) sz) := by
  refine Met.ofW (cc := b_Chip_nand) (maxL := 1) (ret := (some (ClassFile.FieldType.object "ChipDesk$Chip"))) (by decide) rfl ?_
  intro p e s m args below meth c s₁ B hml hv
  obtain ⟨rfl, ⟨hsz, hP, hK, hD0, hF⟩, hE⟩ := hv
  have hx := B.exec
  have hb := B.bytes
  have hr := B.returns
  have hts := atoms_spec (ws := w_Chip_nand) B.pre
  have hts : ∀ w ∈ tb, w.before _ s = true := fun w h => hts w (List.mem_cons_of_mem _ h)
  have hown : s.vm.findClass R_Chip = some m.cls := findClass_of_methodNamed B.named
  have hlocks := B.notSynchronized
  subst hsz
  have hD := hD0.self (sz := s.heap.size)
  generalize hAe : va_A ([] ++ va_pl L (gE cO G)) s.heap.size = A at hD hF hE ⊢
  have hA : ∀ q : Nat, s.heap.size ≤ q → A q := fun q h => by rw [← hAe]; exact Or.inr h
  have hS : va_S A s.heap s.heap [] := va_S.rf
  have hP : va_P (dC, dI) cl ([] ++ va_pl L (gE cO G)) s.heap := hP
  have hl := lv_entry ([]) (n := 1) (Nat.le_of_ble_eq_true rfl)
  rw [lg_entry_eq]
  generalize (lg_sl ([]) ++ List.replicate (1 - (lg_sl ([])).length) Slot.unset).toArray = ls at hl ⊢
  have hl : lv_has ls 1 [] := hl
  have fo : ∀ b, G.1 b ≠ 0 → gs G G b := fun b _ => gs.rf G b
  refine pq_new (ci := 6) (fs := [.null, .int (nI 0), .int (nI 0), .null, .null, .null, .int (nI 0), .int (nI 0), .int (nI 0)]) (C := R_Chip) (T := F_Chip) (N := 9) (fn := fun q9 => gE cO (g0 G q9 6)) hx hb hts i_Chip t_Chip t_Chip_ok hown (hts _ k_138) (hts _ k_139) (hts _ k_9) hK hP hD hS hA rfl (fun j hj => by rcases (show j = 0 ∨ j = 1 ∨ j = 2 ∨ j = 3 ∨ j = 4 ∨ j = 5 ∨ j = 6 ∨ j = 7 ∨ j = 8 by omega) with rfl | rfl | rfl | rfl | rfl | rfl | rfl | rfl | rfl <;> rfl) (Nat.le_of_ble_eq_true rfl) (Nat.le_of_ble_eq_true rfl) (fun q9 => nE_6 (G := G) q9) d_Chip_nand_0 (fun q_1 H nq_1 hP hD hS => ?_)
  have hL0 := hL
  have hz9 : G.1 q_1 = 0 := g0_n hL nq_1
  replace hL := gL_new (a := q_1) (n := 6) hL
  have hP : va_P (dC, dI) cl ([] ++ va_pl (L ++ [q_1]) (gE cO (g0 G q_1 6))) H := hP
  have hD : va_D A ([] ++ va_pl (L ++ [q_1]) (gE cO (g0 G q_1 6))) := hD
  refine lv_dup hx hb d_Chip_nand_3 rfl ?_
  have hz_q_1 : G.1 q_1 = 0 := hz9
  refine pq_new (ci := 7) (fs := [.long 0, .long 0, .int (nI 0)]) (C := R_Name) (T := F_Name) (N := 3) (fn := fun q9 => gE cO (g0 (g0 G q_1 6) q9 1)) hx hb hts i_Name t_Name t_Name_ok hown (hts _ k_140) (hts _ k_141) (hts _ k_10) hK hP hD hS hA rfl (fun j hj => by rcases (show j = 0 ∨ j = 1 ∨ j = 2 by omega) with rfl | rfl | rfl <;> rfl) (Nat.le_of_ble_eq_true rfl) (Nat.le_of_ble_eq_true rfl) (fun q9 => nE_1 (G := (g0 G q_1 6)) q9) d_Chip_nand_4 (fun q_2 H nq_2 hP hD hS => ?_)
  have kf_3 : (g0 (g0 G q_1 6) q_2 1).1 q_1 = 6 := (g0_k hL (g0_q G q_1 6) (by decide) nq_2)
  have ne_4 : q_1 ≠ q_2 := g0_ne hL (g0_q G q_1 6) (by decide) nq_2
  have hL0 := hL
  have hz9 : (g0 G q_1 6).1 q_2 = 0 := g0_n hL nq_2
  replace hL := gL_new (a := q_2) (n := 1) hL
  have hP : va_P (dC, dI) cl ([] ++ va_pl (L ++ [q_1] ++ [q_2]) (gE cO (g0 (g0 G q_1 6) q_2 1))) H := hP
  have hD : va_D A ([] ++ va_pl (L ++ [q_1] ++ [q_2]) (gE cO (g0 (g0 G q_1 6) q_2 1))) := hD
  refine lv_dup hx hb d_Chip_nand_7 rfl ?_
  refine lv_ldc2 (v := 1315008100) hx hb hown (hts _ k_142) d_Chip_nand_8 ?_
  refine lv_lconst (v := 0) hx hb d_Chip_nand_11 (by decide) ?_
  refine lv_iconst (v := (-1)) hx hb d_Chip_nand_12 (by decide) ?_
  have hz_q_2 : (g0 G q_1 6).1 q_2 = 0 := hz9
  have hN := isN_new (q := q_2) (hh := 1315008100) (tt := 0) (pl := none) hL0
  refine wd_v (cx := []) (wr := []) (pl := va_pl (L ++ [q_1] ++ [q_2]) (gE cO (g0 (g0 G q_1 6) q_2 1))) (va_runI (As := [.long 1315008100, .long 0, .int (oI none)]) (rest := [.ref q_2, .ref q_1, .ref q_1]) ⟨hx, hb, hml, hown, hts⟩ (p_Name_init l dC dI cB cI cL cZ cC cO (G := g0 (g0 G q_1 6) q_2 1) q_2 1315008100 0 none t0 _ hL (g0_q (g0 G q_1 6) q_2 1)) (cwI 3 hts (good_c k_145) rfl rfl rfl (hts _ k_10) (hts _ k_143) (hts _ k_144) rfl (by decide +kernel) ⟨Nat.le_of_ble_eq_true rfl, Nat.le_of_ble_eq_true rfl⟩) (wd_preS hK hP hD hS hA hF hE [] (by decide) rfl) rfl rfl hl.1 rfl (lv_room (Nat.le_of_ble_eq_true rfl)) d_Chip_nand_13 ⟨Nat.le_of_ble_eq_true rfl, Nat.le_of_ble_eq_true rfl⟩) hP hD hS hA [] [] rfl rfl (by decide) (by decide) (fun _ H locs w_6 hP hD hS => ?_)
  have hP : va_P (dC, dI) cl ([] ++ va_pl (L ++ [q_1] ++ [q_2]) (gE cO (nam (g0 G q_1 6) q_2 1315008100 0 none))) H := hP
  have hD : va_D A ([] ++ va_pl (L ++ [q_1] ++ [q_2]) (gE cO (nam (g0 G q_1 6) q_2 1315008100 0 none))) := hD
  generalize nam (g0 G q_1 6) q_2 1315008100 0 none = N_5 at hP hD hN
  obtain ⟨in_q_2, hL, hfN⟩ := hN
  refine lv_iconst (v := nI 1) hx hb d_Chip_nand_16 (by decide) ?_
  refine lv_iconst (v := nI 0) hx hb d_Chip_nand_17 (by decide) ?_
  have kq : N_5.1 q_1 = 6 := (hfN q_1 (fun e9 => by have q9 := hz_q_2; rw [← e9, g0_q] at q9; cases q9)).1.trans (g0_q _ _ _)
  refine wd_v (cx := []) (wr := []) (pl := va_pl (L ++ [q_1] ++ [q_2]) (gE cO N_5)) (va_runI (As := [.ref q_2, .int (nI 1), .int (nI 0)]) (rest := [.ref q_1]) ⟨hx, hb, hml, hown, hts⟩ (p_Chip_init l dC dI cB cI cL cZ cC cO (G := N_5) q_1 q_2 1 0 t0 _ hL kq) (cwI 3 hts (good_c k_161) rfl rfl rfl (hts _ k_9) (hts _ k_159) (hts _ k_160) rfl (by decide +kernel) ⟨Nat.le_of_ble_eq_true rfl, Nat.le_of_ble_eq_true rfl⟩) (wd_preS hK hP hD hS hA hF hE [] (by decide) rfl) rfl rfl hl.1 rfl (lv_room (Nat.le_of_ble_eq_true rfl)) d_Chip_nand_18 ⟨Nat.le_of_ble_eq_true rfl, Nat.le_of_ble_eq_true rfl⟩) hP hD hS hA [] [] rfl rfl (by decide) (by decide) (fun v9 H locs w_8 hP hD hS => ?_)
  have hP : va_P (dC, dI) cl ([] ++ va_pl (L ++ [q_1] ++ [q_2] ++ [v9.1] ++ [v9.2.1] ++ [v9.2.2]) (gE cO (chp t0 N_5 q_1 q_2 1 0 v9.1 v9.2.1 v9.2.2))) H := hP
  have hD : va_D A ([] ++ va_pl (L ++ [q_1] ++ [q_2] ++ [v9.1] ++ [v9.2.1] ++ [v9.2.2]) (gE cO (chp t0 N_5 q_1 q_2 1 0 v9.1 v9.2.1 v9.2.2))) := hD
  obtain ⟨p1, p2, p3⟩ := w_8
  obtain ⟨ic_q_1, l0_1, l0_2, l0_3, hL2⟩ := isC_new (t0 := t0) (nm := q_2) (gt := 1) (ix := 0) hL kq p1 p2 p3
  have kz1 : N_5.1 v9.1 = 0 := g0_n hL p1
  have kz2 : N_5.1 v9.2.1 = 0 := g0_n hL (fun q9 => p2 (List.mem_append_left _ q9))
  have kz3 : N_5.1 v9.2.2 = 0 := g0_n hL (fun q9 => p3 (List.mem_append_left _ (List.mem_append_left _ q9)))
  have hqn : q_1 ≠ q_2 := fun e9 => by have q9 := kq; rw [e9, in_q_2.1] at q9; cases q9
  have hcg : ∀ b, b ≠ q_1 → N_5.1 b ≠ 0 → gs N_5 (chp t0 N_5 q_1 q_2 1 0 v9.1 v9.2.1 v9.2.2) b := fun b e1 e2 => chp_gs e1 (fun e9 => e2 (by rw [e9]; exact kz1)) (fun e9 => e2 (by rw [e9]; exact kz2)) (fun e9 => e2 (by rw [e9]; exact kz3))
  have in_q_2 : isN (chp t0 N_5 q_1 q_2 1 0 v9.1 v9.2.1 v9.2.2) q_2 _ _ _ := in_q_2.keep (hcg q_2 (Ne.symm hqn) (by rw [in_q_2.1]; decide))
  have hy_q_2 : G.1 q_2 = 0 := by have q9 := hz_q_2; rw [(gs_0 (Ne.symm hqn)).1] at q9; exact q9
  have hf1 : ∀ b, G.1 b ≠ 0 → gs G N_5 b := fun b h9 => (gs_0 (fun e9 => h9 (by rw [e9]; exact hz_q_1))).tr (hfN b (fun e9 => h9 (by rw [e9]; exact hy_q_2)))
  have fo : ∀ b, G.1 b ≠ 0 → gs G (chp t0 N_5 q_1 q_2 1 0 v9.1 v9.2.1 v9.2.2) b := fun b h9 => (hf1 b h9).tr (hcg b (fun e9 => h9 (by rw [e9]; exact hz_q_1)) (by rw [(hf1 b h9).1]; exact h9))
  have fr_l1 : G.1 v9.1 = 0 := Classical.byContradiction (fun h9 => h9 ((hf1 v9.1 h9).1.symm.trans kz1))
  have fr_l2 : G.1 v9.2.1 = 0 := Classical.byContradiction (fun h9 => h9 ((hf1 v9.2.1 h9).1.symm.trans kz2))
  have fr_l3 : G.1 v9.2.2 = 0 := Classical.byContradiction (fun h9 => h9 ((hf1 v9.2.2 h9).1.symm.trans kz3))
  have hne12 : v9.1 ≠ v9.2.1 := fun e9 => p2 (e9 ▸ List.mem_append_right _ (List.mem_singleton.mpr rfl))
  have hne13 : v9.1 ≠ v9.2.2 := fun e9 => p3 (e9 ▸ List.mem_append_left _ (List.mem_append_right _ (List.mem_singleton.mpr rfl)))
  have hne23 : v9.2.1 ≠ v9.2.2 := fun e9 => p3 (e9 ▸ List.mem_append_right _ (List.mem_singleton.mpr rfl))
  have hL := hL2
  generalize chp t0 N_5 q_1 q_2 1 0 v9.1 v9.2.1 v9.2.2 = G_10 at hP hD ic_q_1 l0_1 l0_2 l0_3 hL in_q_2 fo
  generalize v9.1 = la at *
  generalize v9.2.1 = lb at *
  generalize v9.2.2 = lc at *
  have hP : va_P (dC, dI) cl ([] ++ va_pl (L ++ [q_1] ++ [q_2] ++ [la] ++ [lb] ++ [lc]) (gE cO G_10)) H := hP
  have hD : va_D A ([] ++ va_pl (L ++ [q_1] ++ [q_2] ++ [la] ++ [lb] ++ [lc]) (gE cO G_10)) := hD
  have lx := LS0.x l0_1 (gs.rf G_10 la)
  have fs : LFs G G_10 (fun b => b = la ∨ b = q_1) := LFs_of fo _
  have fz_q_1 := hz_q_1
  have fr_q_1 : frh G q_1 := frh0 hz_q_1
  have fr_q_2 : frh G q_2 := frh0 hy_q_2
  clear fo
  refine lv_astore_n (lv' := [(0, .ref q_1)]) hx hb d_Chip_nand_21 rfl hl (by decide) rfl (fun ls hl => ?_)
  refine lv_aload_n hx hb d_Chip_nand_22 rfl (lv_at hl 0 rfl) ?_
  refine pq_new (ci := 8) (fs := [.null, .int (nI 0), .int (nI 0), .int (nI 0), .int (nI 0), .int (nI 0), .int (nI 0)]) (C := R_Wire) (T := F_Wire) (N := 7) (fn := fun q9 => gE cO (g0 G_10 q9 2)) hx hb hts i_Wire t_Wire t_Wire_ok hown (hts _ k_207) (hts _ k_208) (hts _ k_11) hK hP hD hS hA rfl (fun j hj => by rcases (show j = 0 ∨ j = 1 ∨ j = 2 ∨ j = 3 ∨ j = 4 ∨ j = 5 ∨ j = 6 by omega) with rfl | rfl | rfl | rfl | rfl | rfl | rfl <;> rfl) (Nat.le_of_ble_eq_true rfl) (Nat.le_of_ble_eq_true rfl) (fun q9 => nE_2 (G := G_10) q9) d_Chip_nand_23 (fun q_11 H nq_11 hP hD hS => ?_)
  have kf_12 : (g0 G_10 q_11 2).1 q_1 = 6 := (g0_k hL ic_q_1.1 (by decide) nq_11)
  have ne_13 : q_1 ≠ q_11 := g0_ne hL ic_q_1.1 (by decide) nq_11
  have kf_14 : (g0 G_10 q_11 2).1 q_2 = 1 := (g0_k hL in_q_2.1 (by decide) nq_11)
  have ne_15 : q_2 ≠ q_11 := g0_ne hL in_q_2.1 (by decide) nq_11
  have kf_16 : (g0 G_10 q_11 2).1 lb = 7 := (g0_k hL l0_2.1 (by decide) nq_11)
  have ne_17 : lb ≠ q_11 := g0_ne hL l0_2.1 (by decide) nq_11
  have kf_18 : (g0 G_10 q_11 2).1 lc = 7 := (g0_k hL l0_3.1 (by decide) nq_11)
  have ne_19 : lc ≠ q_11 := g0_ne hL l0_3.1 (by decide) nq_11
  have kf_20 : (g0 G_10 q_11 2).1 la = 7 := (g0_k hL lx.k.1 (by decide) nq_11)
  have ne_21 : la ≠ q_11 := g0_ne hL lx.k.1 (by decide) nq_11
  have hL0 := hL
  have hz9 : G_10.1 q_11 = 0 := g0_n hL nq_11
  replace hL := gL_new (a := q_11) (n := 2) hL
  have hP : va_P (dC, dI) cl ([] ++ va_pl (L ++ [q_1] ++ [q_2] ++ [la] ++ [lb] ++ [lc] ++ [q_11]) (gE cO (g0 G_10 q_11 2))) H := hP
  have hD : va_D A ([] ++ va_pl (L ++ [q_1] ++ [q_2] ++ [la] ++ [lb] ++ [lc] ++ [q_11]) (gE cO (g0 G_10 q_11 2))) := hD
  refine lv_dup hx hb d_Chip_nand_26 rfl ?_
  have hz_q_11 : G_10.1 q_11 = 0 := hz9
  refine pq_new (ci := 7) (fs := [.long 0, .long 0, .int (nI 0)]) (C := R_Name) (T := F_Name) (N := 3) (fn := fun q9 => gE cO (g0 (g0 G_10 q_11 2) q9 1)) hx hb hts i_Name t_Name t_Name_ok hown (hts _ k_140) (hts _ k_141) (hts _ k_10) hK hP hD hS hA rfl (fun j hj => by rcases (show j = 0 ∨ j = 1 ∨ j = 2 by omega) with rfl | rfl | rfl <;> rfl) (Nat.le_of_ble_eq_true rfl) (Nat.le_of_ble_eq_true rfl) (fun q9 => nE_1 (G := (g0 G_10 q_11 2)) q9) d_Chip_nand_27 (fun q_22 H nq_22 hP hD hS => ?_)
  have kf_23 : (g0 (g0 G_10 q_11 2) q_22 1).1 q_1 = 6 := (g0_k hL kf_12 (by decide) nq_22)
  have ne_24 : q_1 ≠ q_22 := g0_ne hL kf_12 (by decide) nq_22
  have kf_25 : (g0 (g0 G_10 q_11 2) q_22 1).1 q_2 = 1 := (g0_k hL kf_14 (by decide) nq_22)
  have ne_26 : q_2 ≠ q_22 := g0_ne hL kf_14 (by decide) nq_22
  have kf_27 : (g0 (g0 G_10 q_11 2) q_22 1).1 lb = 7 := (g0_k hL kf_16 (by decide) nq_22)
  have ne_28 : lb ≠ q_22 := g0_ne hL kf_16 (by decide) nq_22
  have kf_29 : (g0 (g0 G_10 q_11 2) q_22 1).1 lc = 7 := (g0_k hL kf_18 (by decide) nq_22)
  have ne_30 : lc ≠ q_22 := g0_ne hL kf_18 (by decide) nq_22
  have kf_31 : (g0 (g0 G_10 q_11 2) q_22 1).1 la = 7 := (g0_k hL kf_20 (by decide) nq_22)
  have ne_32 : la ≠ q_22 := g0_ne hL kf_20 (by decide) nq_22
  have kf_33 : (g0 (g0 G_10 q_11 2) q_22 1).1 q_11 = 2 := (g0_k hL (g0_q G_10 q_11 2) (by decide) nq_22)
  have ne_34 : q_11 ≠ q_22 := g0_ne hL (g0_q G_10 q_11 2) (by decide) nq_22
  have hL0 := hL
  have hz9 : (g0 G_10 q_11 2).1 q_22 = 0 := g0_n hL nq_22
  replace hL := gL_new (a := q_22) (n := 1) hL
  have hP : va_P (dC, dI) cl ([] ++ va_pl (L ++ [q_1] ++ [q_2] ++ [la] ++ [lb] ++ [lc] ++ [q_11] ++ [q_22]) (gE cO (g0 (g0 G_10 q_11 2) q_22 1))) H := hP
  have hD : va_D A ([] ++ va_pl (L ++ [q_1] ++ [q_2] ++ [la] ++ [lb] ++ [lc] ++ [q_11] ++ [q_22]) (gE cO (g0 (g0 G_10 q_11 2) q_22 1))) := hD
  refine lv_dup hx hb d_Chip_nand_30 rfl ?_
  refine lv_ldc2 (v := 97) hx hb hown (hts _ k_209) d_Chip_nand_31 ?_
  refine lv_lconst (v := 0) hx hb d_Chip_nand_34 (by decide) ?_
  refine lv_iconst (v := (-1)) hx hb d_Chip_nand_35 (by decide) ?_
  have hz_q_22 : (g0 G_10 q_11 2).1 q_22 = 0 := hz9
  have hN := isN_new (q := q_22) (hh := 97) (tt := 0) (pl := none) hL0
  refine wd_v (cx := []) (wr := []) (pl := va_pl (L ++ [q_1] ++ [q_2] ++ [la] ++ [lb] ++ [lc] ++ [q_11] ++ [q_22]) (gE cO (g0 (g0 G_10 q_11 2) q_22 1))) (va_runI (As := [.long 97, .long 0, .int (oI none)]) (rest := [.ref q_22, .ref q_11, .ref q_11, .ref q_1]) ⟨hx, hb, hml, hown, hts⟩ (p_Name_init l dC dI cB cI cL cZ cC cO (G := g0 (g0 G_10 q_11 2) q_22 1) q_22 97 0 none t0 _ hL (g0_q (g0 G_10 q_11 2) q_22 1)) (cwI 3 hts (good_c k_145) rfl rfl rfl (hts _ k_10) (hts _ k_143) (hts _ k_144) rfl (by decide +kernel) ⟨Nat.le_of_ble_eq_true rfl, Nat.le_of_ble_eq_true rfl⟩) (wd_preS hK hP hD hS hA hF hE [] (by decide) rfl) rfl rfl hl.1 rfl (lv_room (Nat.le_of_ble_eq_true rfl)) d_Chip_nand_36 ⟨Nat.le_of_ble_eq_true rfl, Nat.le_of_ble_eq_true rfl⟩) hP hD hS hA [] [] rfl rfl (by decide) (by decide) (fun _ H locs w_36 hP hD hS => ?_)
  have hP : va_P (dC, dI) cl ([] ++ va_pl (L ++ [q_1] ++ [q_2] ++ [la] ++ [lb] ++ [lc] ++ [q_11] ++ [q_22]) (gE cO (nam (g0 G_10 q_11 2) q_22 97 0 none))) H := hP
  have hD : va_D A ([] ++ va_pl (L ++ [q_1] ++ [q_2] ++ [la] ++ [lb] ++ [lc] ++ [q_11] ++ [q_22]) (gE cO (nam (g0 G_10 q_11 2) q_22 97 0 none))) := hD
  generalize nam (g0 G_10 q_11 2) q_22 97 0 none = N_35 at hP hD hN
  obtain ⟨in_q_22, hL, hfN⟩ := hN
  refine lv_iconst (v := nI 0) hx hb d_Chip_nand_39 (by decide) ?_
  have kq : N_35.1 q_11 = 2 := (hfN q_11 (fun e9 => by have q9 := hz_q_22; rw [← e9, g0_q] at q9; cases q9)).1.trans (g0_q _ _ _)
  refine wd_v (cx := []) (wr := []) (pl := va_pl (L ++ [q_1] ++ [q_2] ++ [la] ++ [lb] ++ [lc] ++ [q_11] ++ [q_22]) (gE cO N_35)) (va_runI (As := [.ref q_22, .int (nI 0)]) (rest := [.ref q_11, .ref q_1]) ⟨hx, hb, hml, hown, hts⟩ (p_Wire_init l dC dI cB cI cL cZ cC cO (G := N_35) q_11 q_22 0 t0 _ hL kq) (cwI 2 hts (good_c k_212) rfl rfl rfl (hts _ k_11) (hts _ k_210) (hts _ k_211) rfl (by decide +kernel) ⟨Nat.le_of_ble_eq_true rfl, Nat.le_of_ble_eq_true rfl⟩) (wd_preS hK hP hD hS hA hF hE [] (by decide) rfl) rfl rfl hl.1 rfl (lv_room (Nat.le_of_ble_eq_true rfl)) d_Chip_nand_40 ⟨Nat.le_of_ble_eq_true rfl, Nat.le_of_ble_eq_true rfl⟩) hP hD hS hA [] [] rfl rfl (by decide) (by decide) (fun _ H locs w_38 hP hD hS => ?_)
  have hP : va_P (dC, dI) cl ([] ++ va_pl (L ++ [q_1] ++ [q_2] ++ [la] ++ [lb] ++ [lc] ++ [q_11] ++ [q_22]) (gE cO (wir N_35 q_11 q_22 0))) H := hP
  have hD : va_D A ([] ++ va_pl (L ++ [q_1] ++ [q_2] ++ [la] ++ [lb] ++ [lc] ++ [q_11] ++ [q_22]) (gE cO (wir N_35 q_11 q_22 0))) := hD
  have iw_q_11 := isW_of (nm := q_22) (k := 0) kq
  have hqn : q_11 ≠ q_22 := fun e9 => by have q9 := kq; rw [e9, in_q_22.1] at q9; cases q9
  have in_q_22 : isN (wir N_35 q_11 q_22 0) q_22 _ _ _ := in_q_22.keep (wir_gs (Ne.symm hqn))
  have hy_q_22 : G_10.1 q_22 = 0 := by have q9 := hz_q_22; rw [(gs_0 (Ne.symm hqn)).1] at q9; exact q9
  have hfr : ∀ b, G_10.1 b ≠ 0 → gs G_10 (wir N_35 q_11 q_22 0) b := fun b h9 => ((gs_0 (fun e9 => h9 (by rw [e9]; exact hz_q_11))).tr (hfN b (fun e9 => h9 (by rw [e9]; exact hy_q_22)))).tr (wir_gs (fun e9 => h9 (by rw [e9]; exact hz_q_11)))
  have hL : gL (L ++ [q_1] ++ [q_2] ++ [la] ++ [lb] ++ [lc] ++ [q_11] ++ [q_22]) (wir N_35 q_11 q_22 0) := hL
  generalize wir N_35 q_11 q_22 0 = G_40 at hP hD iw_q_11 in_q_22 hfr hL
  have ne_q_1_q_11 : q_1 ≠ q_11 := fun e9 => by have q9 := ic_q_1.1; rw [e9, hz_q_11] at q9; cases q9
  have ne_q_2_q_11 : q_2 ≠ q_11 := fun e9 => by have q9 := in_q_2.1; rw [e9, hz_q_11] at q9; cases q9
  have ne_lb_q_11 : lb ≠ q_11 := fun e9 => by have q9 := l0_2.1; rw [e9, hz_q_11] at q9; cases q9
  have ne_lc_q_11 : lc ≠ q_11 := fun e9 => by have q9 := l0_3.1; rw [e9, hz_q_11] at q9; cases q9
  have ne_q_1_q_22 : q_1 ≠ q_22 := fun e9 => by have q9 := ic_q_1.1; rw [e9, hy_q_22] at q9; cases q9
  have ne_q_2_q_22 : q_2 ≠ q_22 := fun e9 => by have q9 := in_q_2.1; rw [e9, hy_q_22] at q9; cases q9
  have ne_lb_q_22 : lb ≠ q_22 := fun e9 => by have q9 := l0_2.1; rw [e9, hy_q_22] at q9; cases q9
  have ne_lc_q_22 : lc ≠ q_22 := fun e9 => by have q9 := l0_3.1; rw [e9, hy_q_22] at q9; cases q9
  have fr_q_11 : frh G q_11 := frh.fr (frh0 hz_q_11) fs
  have fr_q_22 : frh G q_22 := frh.fr (frh0 hy_q_22) fs
  have ic_q_1 := ic_q_1.keep (hfr q_1 (by rw [ic_q_1.1]; decide))
  have in_q_2 := in_q_2.keep (hfr q_2 (by rw [in_q_2.1]; decide))
  have l0_2 := l0_2.keep (hfr lb (by rw [l0_2.1]; decide))
  have l0_3 := l0_3.keep (hfr lc (by rw [l0_3.1]; decide))
  have fs : LFs G G_40 (fun b => b = la ∨ b = q_1) := fs.tr (LFs_of hfr _)
  have lx := LSx_old lx hfr
  refine wd_v (cx := []) (wr := []) (pl := va_pl (L ++ [q_1] ++ [q_2] ++ [la] ++ [lb] ++ [lc] ++ [q_11] ++ [q_22]) (gE cO G_40)) (va_runV (As := [.ref q_11]) (rest := []) ⟨hx, hb, hml, hown, hts⟩ (p_Chip_addPin l dC dI cB cI cL cZ cC cO (G := G_40) q_1 q_11 la ([] : List Nat) t0 _ hL ic_q_1.1 ic_q_1.2.2.2.2.1 lx iw_q_11.1 (by rw [iw_q_11.2.2.1]; decide) (by simp)) (cwV 1 hts (good_V k_250 k_251 k_252 k_9 k_253) rfl rfl rfl (by decide +kernel) ⟨Nat.le_of_ble_eq_true rfl, Nat.le_of_ble_eq_true rfl⟩) (wd_preV (ci := 6) (r := (R_Chip, F_Chip, 9)) hK hP hD hS hA hF hE [] (by decide) rfl rfl (pq_at (gL_m hL ic_q_1.1 (by decide)) (gE_6 (G := G_40) ic_q_1.1))) rfl rfl hl.1 rfl (lv_room (Nat.le_of_ble_eq_true rfl)) d_Chip_nand_43 ⟨Nat.le_of_ble_eq_true rfl, Nat.le_of_ble_eq_true rfl⟩) hP hD hS hA [] [] rfl rfl (by decide) (by decide) (fun u H locs w_41 hP hD hS => ?_)
  have hP : va_P (dC, dI) cl ([] ++ va_pl u.1 (gE cO u.2)) H := hP
  have hD : va_D A ([] ++ va_pl u.1 (gE cO u.2)) := hD
  obtain ⟨hl9, hL9, hfa, hgc⟩ := w_41
  rw [iw_q_11.2.2.1] at hgc
  have in_q_2 := in_q_2.keep (hfa q_2 (by rw [in_q_2.1]; decide) (fun e9 => by have q9 := in_q_2.1; rw [e9, lx.k.1] at q9; cases q9) (fun e9 => by have q9 := in_q_2.1; rw [e9, ic_q_1.1] at q9; cases q9) (fun q9 => by have := q9.1; rw [in_q_2.1] at this; omega))
  have l0_2 := l0_2.keep (hfa lb (by rw [l0_2.1]; decide) (fun e9 => hne12 e9.symm) (fun e9 => by have q9 := l0_2.1; rw [e9, ic_q_1.1] at q9; cases q9) (fun q9 => by have := q9.1; rw [l0_2.1] at this; omega))
  have l0_3 := l0_3.keep (hfa lc (by rw [l0_3.1]; decide) (fun e9 => hne13 e9.symm) (fun e9 => by have q9 := l0_3.1; rw [e9, ic_q_1.1] at q9; cases q9) (fun q9 => by have := q9.1; rw [l0_3.1] at this; omega))
  have iw_q_11 := iw_q_11.keep (hfa q_11 (by rw [iw_q_11.1]; decide) (fun e9 => by have q9 := iw_q_11.1; rw [e9, lx.k.1] at q9; cases q9) (fun e9 => by have q9 := iw_q_11.1; rw [e9, ic_q_1.1] at q9; cases q9) (fun q9 => by have := q9.1; rw [iw_q_11.1] at this; omega))
  have in_q_22 := in_q_22.keep (hfa q_22 (by rw [in_q_22.1]; decide) (fun e9 => by have q9 := in_q_22.1; rw [e9, lx.k.1] at q9; cases q9) (fun e9 => by have q9 := in_q_22.1; rw [e9, ic_q_1.1] at q9; cases q9) (fun q9 => by have := q9.1; rw [in_q_22.1] at this; omega))
  have fs : LFs G u.2 (fun b => b = la ∨ b = q_1) := fs.tr (LFs_LFa hfa lx.k.1 hl9.k.1 (by rw [hgc.1]; split <;> rfl))
  rw [if_pos rfl] at hgc
  have ic_q_1 := isC_add ic_q_1 hgc
  have lx := hl9
  have hL := hL9
  obtain ⟨L9, hL9e⟩ : ∃ z, z = u.1 := ⟨_, rfl⟩
  obtain ⟨G_43, hG9e⟩ : ∃ z, z = u.2 := ⟨_, rfl⟩
  rw [← hL9e, ← hG9e] at hP hD
  rw [← hG9e] at ic_q_1 in_q_2 l0_2 l0_3 iw_q_11 in_q_22 lx fs
  rw [← hL9e, ← hG9e] at hL
  clear hL9 hfa hgc hl9 hL9e hG9e
  have hP : va_P (dC, dI) cl ([] ++ va_pl L9 (gE cO G_43)) H := hP
  have hD : va_D A ([] ++ va_pl L9 (gE cO G_43)) := hD
  refine lv_aload_n hx hb d_Chip_nand_46 rfl (lv_at hl 0 rfl) ?_
  refine pq_new (ci := 8) (fs := [.null, .int (nI 0), .int (nI 0), .int (nI 0), .int (nI 0), .int (nI 0), .int (nI 0)]) (C := R_Wire) (T := F_Wire) (N := 7) (fn := fun q9 => gE cO (g0 G_43 q9 2)) hx hb hts i_Wire t_Wire t_Wire_ok hown (hts _ k_207) (hts _ k_208) (hts _ k_11) hK hP hD hS hA rfl (fun j hj => by rcases (show j = 0 ∨ j = 1 ∨ j = 2 ∨ j = 3 ∨ j = 4 ∨ j = 5 ∨ j = 6 by omega) with rfl | rfl | rfl | rfl | rfl | rfl | rfl <;> rfl) (Nat.le_of_ble_eq_true rfl) (Nat.le_of_ble_eq_true rfl) (fun q9 => nE_2 (G := G_43) q9) d_Chip_nand_47 (fun q_44 H nq_44 hP hD hS => ?_)
  have kf_45 : (g0 G_43 q_44 2).1 q_1 = 6 := (g0_k hL ic_q_1.1 (by decide) nq_44)
  have ne_46 : q_1 ≠ q_44 := g0_ne hL ic_q_1.1 (by decide) nq_44
  have kf_47 : (g0 G_43 q_44 2).1 q_2 = 1 := (g0_k hL in_q_2.1 (by decide) nq_44)
  have ne_48 : q_2 ≠ q_44 := g0_ne hL in_q_2.1 (by decide) nq_44
  have kf_49 : (g0 G_43 q_44 2).1 lb = 7 := (g0_k hL l0_2.1 (by decide) nq_44)
  have ne_50 : lb ≠ q_44 := g0_ne hL l0_2.1 (by decide) nq_44
  have kf_51 : (g0 G_43 q_44 2).1 lc = 7 := (g0_k hL l0_3.1 (by decide) nq_44)
  have ne_52 : lc ≠ q_44 := g0_ne hL l0_3.1 (by decide) nq_44
  have kf_53 : (g0 G_43 q_44 2).1 q_11 = 2 := (g0_k hL iw_q_11.1 (by decide) nq_44)
  have ne_54 : q_11 ≠ q_44 := g0_ne hL iw_q_11.1 (by decide) nq_44
  have kf_55 : (g0 G_43 q_44 2).1 q_22 = 1 := (g0_k hL in_q_22.1 (by decide) nq_44)
  have ne_56 : q_22 ≠ q_44 := g0_ne hL in_q_22.1 (by decide) nq_44
  have kf_57 : (g0 G_43 q_44 2).1 la = 7 := (g0_k hL lx.k.1 (by decide) nq_44)
  have ne_58 : la ≠ q_44 := g0_ne hL lx.k.1 (by decide) nq_44
  have hL0 := hL
  have hz9 : G_43.1 q_44 = 0 := g0_n hL nq_44
  replace hL := gL_new (a := q_44) (n := 2) hL
  have hP : va_P (dC, dI) cl ([] ++ va_pl (L9 ++ [q_44]) (gE cO (g0 G_43 q_44 2))) H := hP
  have hD : va_D A ([] ++ va_pl (L9 ++ [q_44]) (gE cO (g0 G_43 q_44 2))) := hD
  refine lv_dup hx hb d_Chip_nand_50 rfl ?_
  have hz_q_44 : G_43.1 q_44 = 0 := hz9
  refine pq_new (ci := 7) (fs := [.long 0, .long 0, .int (nI 0)]) (C := R_Name) (T := F_Name) (N := 3) (fn := fun q9 => gE cO (g0 (g0 G_43 q_44 2) q9 1)) hx hb hts i_Name t_Name t_Name_ok hown (hts _ k_140) (hts _ k_141) (hts _ k_10) hK hP hD hS hA rfl (fun j hj => by rcases (show j = 0 ∨ j = 1 ∨ j = 2 by omega) with rfl | rfl | rfl <;> rfl) (Nat.le_of_ble_eq_true rfl) (Nat.le_of_ble_eq_true rfl) (fun q9 => nE_1 (G := (g0 G_43 q_44 2)) q9) d_Chip_nand_51 (fun q_59 H nq_59 hP hD hS => ?_)
  have kf_60 : (g0 (g0 G_43 q_44 2) q_59 1).1 q_1 = 6 := (g0_k hL kf_45 (by decide) nq_59)
  have ne_61 : q_1 ≠ q_59 := g0_ne hL kf_45 (by decide) nq_59
  have kf_62 : (g0 (g0 G_43 q_44 2) q_59 1).1 q_2 = 1 := (g0_k hL kf_47 (by decide) nq_59)
  have ne_63 : q_2 ≠ q_59 := g0_ne hL kf_47 (by decide) nq_59
  have kf_64 : (g0 (g0 G_43 q_44 2) q_59 1).1 lb = 7 := (g0_k hL kf_49 (by decide) nq_59)
  have ne_65 : lb ≠ q_59 := g0_ne hL kf_49 (by decide) nq_59
  have kf_66 : (g0 (g0 G_43 q_44 2) q_59 1).1 lc = 7 := (g0_k hL kf_51 (by decide) nq_59)
  have ne_67 : lc ≠ q_59 := g0_ne hL kf_51 (by decide) nq_59
  have kf_68 : (g0 (g0 G_43 q_44 2) q_59 1).1 q_11 = 2 := (g0_k hL kf_53 (by decide) nq_59)
  have ne_69 : q_11 ≠ q_59 := g0_ne hL kf_53 (by decide) nq_59
  have kf_70 : (g0 (g0 G_43 q_44 2) q_59 1).1 q_22 = 1 := (g0_k hL kf_55 (by decide) nq_59)
  have ne_71 : q_22 ≠ q_59 := g0_ne hL kf_55 (by decide) nq_59
  have kf_72 : (g0 (g0 G_43 q_44 2) q_59 1).1 la = 7 := (g0_k hL kf_57 (by decide) nq_59)
  have ne_73 : la ≠ q_59 := g0_ne hL kf_57 (by decide) nq_59
  have kf_74 : (g0 (g0 G_43 q_44 2) q_59 1).1 q_44 = 2 := (g0_k hL (g0_q G_43 q_44 2) (by decide) nq_59)
  have ne_75 : q_44 ≠ q_59 := g0_ne hL (g0_q G_43 q_44 2) (by decide) nq_59
  have hL0 := hL
  have hz9 : (g0 G_43 q_44 2).1 q_59 = 0 := g0_n hL nq_59
  replace hL := gL_new (a := q_59) (n := 1) hL
  have hP : va_P (dC, dI) cl ([] ++ va_pl (L9 ++ [q_44] ++ [q_59]) (gE cO (g0 (g0 G_43 q_44 2) q_59 1))) H := hP
  have hD : va_D A ([] ++ va_pl (L9 ++ [q_44] ++ [q_59]) (gE cO (g0 (g0 G_43 q_44 2) q_59 1))) := hD
  refine lv_dup hx hb d_Chip_nand_54 rfl ?_
  refine lv_ldc2 (v := 98) hx hb hown (hts _ k_315) d_Chip_nand_55 ?_
  refine lv_lconst (v := 0) hx hb d_Chip_nand_58 (by decide) ?_
  refine lv_iconst (v := (-1)) hx hb d_Chip_nand_59 (by decide) ?_
  have hz_q_59 : (g0 G_43 q_44 2).1 q_59 = 0 := hz9
  have hN := isN_new (q := q_59) (hh := 98) (tt := 0) (pl := none) hL0
  refine wd_v (cx := []) (wr := []) (pl := va_pl (L9 ++ [q_44] ++ [q_59]) (gE cO (g0 (g0 G_43 q_44 2) q_59 1))) (va_runI (As := [.long 98, .long 0, .int (oI none)]) (rest := [.ref q_59, .ref q_44, .ref q_44, .ref q_1]) ⟨hx, hb, hml, hown, hts⟩ (p_Name_init l dC dI cB cI cL cZ cC cO (G := g0 (g0 G_43 q_44 2) q_59 1) q_59 98 0 none t0 _ hL (g0_q (g0 G_43 q_44 2) q_59 1)) (cwI 3 hts (good_c k_145) rfl rfl rfl (hts _ k_10) (hts _ k_143) (hts _ k_144) rfl (by decide +kernel) ⟨Nat.le_of_ble_eq_true rfl, Nat.le_of_ble_eq_true rfl⟩) (wd_preS hK hP hD hS hA hF hE [] (by decide) rfl) rfl rfl hl.1 rfl (lv_room (Nat.le_of_ble_eq_true rfl)) d_Chip_nand_60 ⟨Nat.le_of_ble_eq_true rfl, Nat.le_of_ble_eq_true rfl⟩) hP hD hS hA [] [] rfl rfl (by decide) (by decide) (fun _ H locs w_77 hP hD hS => ?_)
  have hP : va_P (dC, dI) cl ([] ++ va_pl (L9 ++ [q_44] ++ [q_59]) (gE cO (nam (g0 G_43 q_44 2) q_59 98 0 none))) H := hP
  have hD : va_D A ([] ++ va_pl (L9 ++ [q_44] ++ [q_59]) (gE cO (nam (g0 G_43 q_44 2) q_59 98 0 none))) := hD
  generalize nam (g0 G_43 q_44 2) q_59 98 0 none = N_76 at hP hD hN
  obtain ⟨in_q_59, hL, hfN⟩ := hN
  refine lv_iconst (v := nI 0) hx hb d_Chip_nand_63 (by decide) ?_
  have kq : N_76.1 q_44 = 2 := (hfN q_44 (fun e9 => by have q9 := hz_q_59; rw [← e9, g0_q] at q9; cases q9)).1.trans (g0_q _ _ _)
  refine wd_v (cx := []) (wr := []) (pl := va_pl (L9 ++ [q_44] ++ [q_59]) (gE cO N_76)) (va_runI (As := [.ref q_59, .int (nI 0)]) (rest := [.ref q_44, .ref q_1]) ⟨hx, hb, hml, hown, hts⟩ (p_Wire_init l dC dI cB cI cL cZ cC cO (G := N_76) q_44 q_59 0 t0 _ hL kq) (cwI 2 hts (good_c k_212) rfl rfl rfl (hts _ k_11) (hts _ k_210) (hts _ k_211) rfl (by decide +kernel) ⟨Nat.le_of_ble_eq_true rfl, Nat.le_of_ble_eq_true rfl⟩) (wd_preS hK hP hD hS hA hF hE [] (by decide) rfl) rfl rfl hl.1 rfl (lv_room (Nat.le_of_ble_eq_true rfl)) d_Chip_nand_64 ⟨Nat.le_of_ble_eq_true rfl, Nat.le_of_ble_eq_true rfl⟩) hP hD hS hA [] [] rfl rfl (by decide) (by decide) (fun _ H locs w_79 hP hD hS => ?_)
  have hP : va_P (dC, dI) cl ([] ++ va_pl (L9 ++ [q_44] ++ [q_59]) (gE cO (wir N_76 q_44 q_59 0))) H := hP
  have hD : va_D A ([] ++ va_pl (L9 ++ [q_44] ++ [q_59]) (gE cO (wir N_76 q_44 q_59 0))) := hD
  have iw_q_44 := isW_of (nm := q_59) (k := 0) kq
  have hqn : q_44 ≠ q_59 := fun e9 => by have q9 := kq; rw [e9, in_q_59.1] at q9; cases q9
  have in_q_59 : isN (wir N_76 q_44 q_59 0) q_59 _ _ _ := in_q_59.keep (wir_gs (Ne.symm hqn))
  have hy_q_59 : G_43.1 q_59 = 0 := by have q9 := hz_q_59; rw [(gs_0 (Ne.symm hqn)).1] at q9; exact q9
  have hfr : ∀ b, G_43.1 b ≠ 0 → gs G_43 (wir N_76 q_44 q_59 0) b := fun b h9 => ((gs_0 (fun e9 => h9 (by rw [e9]; exact hz_q_44))).tr (hfN b (fun e9 => h9 (by rw [e9]; exact hy_q_59)))).tr (wir_gs (fun e9 => h9 (by rw [e9]; exact hz_q_44)))
  have hL : gL (L9 ++ [q_44] ++ [q_59]) (wir N_76 q_44 q_59 0) := hL
  generalize wir N_76 q_44 q_59 0 = G_81 at hP hD iw_q_44 in_q_59 hfr hL
  have ne_q_1_q_44 : q_1 ≠ q_44 := fun e9 => by have q9 := ic_q_1.1; rw [e9, hz_q_44] at q9; cases q9
  have ne_q_2_q_44 : q_2 ≠ q_44 := fun e9 => by have q9 := in_q_2.1; rw [e9, hz_q_44] at q9; cases q9
  have ne_lb_q_44 : lb ≠ q_44 := fun e9 => by have q9 := l0_2.1; rw [e9, hz_q_44] at q9; cases q9
  have ne_lc_q_44 : lc ≠ q_44 := fun e9 => by have q9 := l0_3.1; rw [e9, hz_q_44] at q9; cases q9
  have ne_q_11_q_44 : q_11 ≠ q_44 := fun e9 => by have q9 := iw_q_11.1; rw [e9, hz_q_44] at q9; cases q9
  have ne_q_22_q_44 : q_22 ≠ q_44 := fun e9 => by have q9 := in_q_22.1; rw [e9, hz_q_44] at q9; cases q9
  have ne_q_1_q_59 : q_1 ≠ q_59 := fun e9 => by have q9 := ic_q_1.1; rw [e9, hy_q_59] at q9; cases q9
  have ne_q_2_q_59 : q_2 ≠ q_59 := fun e9 => by have q9 := in_q_2.1; rw [e9, hy_q_59] at q9; cases q9
  have ne_lb_q_59 : lb ≠ q_59 := fun e9 => by have q9 := l0_2.1; rw [e9, hy_q_59] at q9; cases q9
  have ne_lc_q_59 : lc ≠ q_59 := fun e9 => by have q9 := l0_3.1; rw [e9, hy_q_59] at q9; cases q9
  have ne_q_11_q_59 : q_11 ≠ q_59 := fun e9 => by have q9 := iw_q_11.1; rw [e9, hy_q_59] at q9; cases q9
  have ne_q_22_q_59 : q_22 ≠ q_59 := fun e9 => by have q9 := in_q_22.1; rw [e9, hy_q_59] at q9; cases q9
  have fr_q_44 : frh G q_44 := frh.fr (frh0 hz_q_44) fs
  have fr_q_59 : frh G q_59 := frh.fr (frh0 hy_q_59) fs
  have ic_q_1 := ic_q_1.keep (hfr q_1 (by rw [ic_q_1.1]; decide))
  have in_q_2 := in_q_2.keep (hfr q_2 (by rw [in_q_2.1]; decide))
  have l0_2 := l0_2.keep (hfr lb (by rw [l0_2.1]; decide))
  have l0_3 := l0_3.keep (hfr lc (by rw [l0_3.1]; decide))
  have iw_q_11 := iw_q_11.keep (hfr q_11 (by rw [iw_q_11.1]; decide))
  have in_q_22 := in_q_22.keep (hfr q_22 (by rw [in_q_22.1]; decide))
  have fs : LFs G G_81 (fun b => b = la ∨ b = q_1) := fs.tr (LFs_of hfr _)
  have lx := LSx_old lx hfr
  refine wd_v (cx := []) (wr := []) (pl := va_pl (L9 ++ [q_44] ++ [q_59]) (gE cO G_81)) (va_runV (As := [.ref q_44]) (rest := []) ⟨hx, hb, hml, hown, hts⟩ (p_Chip_addPin l dC dI cB cI cL cZ cC cO (G := G_81) q_1 q_44 la (([] : List Nat) ++ [q_11]) t0 _ hL ic_q_1.1 ic_q_1.2.2.2.2.1 lx iw_q_44.1 (by rw [iw_q_44.2.2.1]; decide) (by simp)) (cwV 1 hts (good_V k_250 k_251 k_252 k_9 k_253) rfl rfl rfl (by decide +kernel) ⟨Nat.le_of_ble_eq_true rfl, Nat.le_of_ble_eq_true rfl⟩) (wd_preV (ci := 6) (r := (R_Chip, F_Chip, 9)) hK hP hD hS hA hF hE [] (by decide) rfl rfl (pq_at (gL_m hL ic_q_1.1 (by decide)) (gE_6 (G := G_81) ic_q_1.1))) rfl rfl hl.1 rfl (lv_room (Nat.le_of_ble_eq_true rfl)) d_Chip_nand_67 ⟨Nat.le_of_ble_eq_true rfl, Nat.le_of_ble_eq_true rfl⟩) hP hD hS hA [] [] rfl rfl (by decide) (by decide) (fun u H locs w_82 hP hD hS => ?_)
  have hP : va_P (dC, dI) cl ([] ++ va_pl u.1 (gE cO u.2)) H := hP
  have hD : va_D A ([] ++ va_pl u.1 (gE cO u.2)) := hD
  obtain ⟨hl9, hL9, hfa, hgc⟩ := w_82
  rw [iw_q_44.2.2.1] at hgc
  have in_q_2 := in_q_2.keep (hfa q_2 (by rw [in_q_2.1]; decide) (fun e9 => by have q9 := in_q_2.1; rw [e9, lx.k.1] at q9; cases q9) (fun e9 => by have q9 := in_q_2.1; rw [e9, ic_q_1.1] at q9; cases q9) (fun q9 => by have := q9.1; rw [in_q_2.1] at this; omega))
  have l0_2 := l0_2.keep (hfa lb (by rw [l0_2.1]; decide) (fun e9 => hne12 e9.symm) (fun e9 => by have q9 := l0_2.1; rw [e9, ic_q_1.1] at q9; cases q9) (fun q9 => by have := q9.1; rw [l0_2.1] at this; omega))
  have l0_3 := l0_3.keep (hfa lc (by rw [l0_3.1]; decide) (fun e9 => hne13 e9.symm) (fun e9 => by have q9 := l0_3.1; rw [e9, ic_q_1.1] at q9; cases q9) (fun q9 => by have := q9.1; rw [l0_3.1] at this; omega))
  have iw_q_11 := iw_q_11.keep (hfa q_11 (by rw [iw_q_11.1]; decide) (fun e9 => by have q9 := iw_q_11.1; rw [e9, lx.k.1] at q9; cases q9) (fun e9 => by have q9 := iw_q_11.1; rw [e9, ic_q_1.1] at q9; cases q9) (fun q9 => by have := q9.1; rw [iw_q_11.1] at this; omega))
  have in_q_22 := in_q_22.keep (hfa q_22 (by rw [in_q_22.1]; decide) (fun e9 => by have q9 := in_q_22.1; rw [e9, lx.k.1] at q9; cases q9) (fun e9 => by have q9 := in_q_22.1; rw [e9, ic_q_1.1] at q9; cases q9) (fun q9 => by have := q9.1; rw [in_q_22.1] at this; omega))
  have iw_q_44 := iw_q_44.keep (hfa q_44 (by rw [iw_q_44.1]; decide) (fun e9 => by have q9 := iw_q_44.1; rw [e9, lx.k.1] at q9; cases q9) (fun e9 => by have q9 := iw_q_44.1; rw [e9, ic_q_1.1] at q9; cases q9) (fun q9 => by have := q9.1; rw [iw_q_44.1] at this; omega))
  have in_q_59 := in_q_59.keep (hfa q_59 (by rw [in_q_59.1]; decide) (fun e9 => by have q9 := in_q_59.1; rw [e9, lx.k.1] at q9; cases q9) (fun e9 => by have q9 := in_q_59.1; rw [e9, ic_q_1.1] at q9; cases q9) (fun q9 => by have := q9.1; rw [in_q_59.1] at this; omega))
  have fs : LFs G u.2 (fun b => b = la ∨ b = q_1) := fs.tr (LFs_LFa hfa lx.k.1 hl9.k.1 (by rw [hgc.1]; split <;> rfl))
  rw [if_pos rfl] at hgc
  have ic_q_1 := isC_add ic_q_1 hgc
  have lx := hl9
  have hL := hL9
  obtain ⟨L9, hL9e⟩ : ∃ z, z = u.1 := ⟨_, rfl⟩
  obtain ⟨G_84, hG9e⟩ : ∃ z, z = u.2 := ⟨_, rfl⟩
  rw [← hL9e, ← hG9e] at hP hD
  rw [← hG9e] at ic_q_1 in_q_2 l0_2 l0_3 iw_q_11 in_q_22 iw_q_44 in_q_59 lx fs
  rw [← hL9e, ← hG9e] at hL
  clear hL9 hfa hgc hl9 hL9e hG9e
  have hP : va_P (dC, dI) cl ([] ++ va_pl L9 (gE cO G_84)) H := hP
  have hD : va_D A ([] ++ va_pl L9 (gE cO G_84)) := hD
  refine lv_aload_n hx hb d_Chip_nand_70 rfl (lv_at hl 0 rfl) ?_
  refine wd_q (cx := []) (wr := []) (pl := va_pl L9 (gE cO G_84)) (va_runS (As := []) (rest := [.ref q_1]) ⟨hx, hb, hml, hown, hts⟩ (p_Chip_outOfGate l dC dI cB cI cL cZ cC cO (G := G_84) t0 _ hL) (va_cwS 0 hts (good_S k_316 k_317 k_9 k_318) rfl rfl rfl (by decide +kernel) ⟨Nat.le_of_ble_eq_true rfl, Nat.le_of_ble_eq_true rfl⟩) (wd_preS hK hP hD hS hA hF hE [] (by decide) rfl) rfl rfl hl.1 rfl (lv_room (Nat.le_of_ble_eq_true rfl)) d_Chip_nand_71 ⟨Nat.le_of_ble_eq_true rfl, Nat.le_of_ble_eq_true rfl⟩) hP hD hS hA [] [] rfl rfl (by decide) (by decide) (fun r_86 u H locs w_85 hP hD hS => ?_)
  have hP : va_P (dC, dI) cl ([] ++ va_pl u.1 (gE cO u.2)) H := hP
  have hD : va_D A ([] ++ va_pl u.1 (gE cO u.2)) := hD
  obtain ⟨wo, no, r_86e, zwo, zno, in_no, iw_wo, hL9, hfr⟩ := w_85
  subst r_86e
  have ne_q_1_wo : q_1 ≠ wo := fun e9 => by have q9 := ic_q_1.1; rw [e9, zwo] at q9; cases q9
  have ne_q_2_wo : q_2 ≠ wo := fun e9 => by have q9 := in_q_2.1; rw [e9, zwo] at q9; cases q9
  have ne_lb_wo : lb ≠ wo := fun e9 => by have q9 := l0_2.1; rw [e9, zwo] at q9; cases q9
  have ne_lc_wo : lc ≠ wo := fun e9 => by have q9 := l0_3.1; rw [e9, zwo] at q9; cases q9
  have ne_q_11_wo : q_11 ≠ wo := fun e9 => by have q9 := iw_q_11.1; rw [e9, zwo] at q9; cases q9
  have ne_q_22_wo : q_22 ≠ wo := fun e9 => by have q9 := in_q_22.1; rw [e9, zwo] at q9; cases q9
  have ne_q_44_wo : q_44 ≠ wo := fun e9 => by have q9 := iw_q_44.1; rw [e9, zwo] at q9; cases q9
  have ne_q_59_wo : q_59 ≠ wo := fun e9 => by have q9 := in_q_59.1; rw [e9, zwo] at q9; cases q9
  have ne_q_1_no : q_1 ≠ no := fun e9 => by have q9 := ic_q_1.1; rw [e9, zno] at q9; cases q9
  have ne_q_2_no : q_2 ≠ no := fun e9 => by have q9 := in_q_2.1; rw [e9, zno] at q9; cases q9
  have ne_lb_no : lb ≠ no := fun e9 => by have q9 := l0_2.1; rw [e9, zno] at q9; cases q9
  have ne_lc_no : lc ≠ no := fun e9 => by have q9 := l0_3.1; rw [e9, zno] at q9; cases q9
  have ne_q_11_no : q_11 ≠ no := fun e9 => by have q9 := iw_q_11.1; rw [e9, zno] at q9; cases q9
  have ne_q_22_no : q_22 ≠ no := fun e9 => by have q9 := in_q_22.1; rw [e9, zno] at q9; cases q9
  have ne_q_44_no : q_44 ≠ no := fun e9 => by have q9 := iw_q_44.1; rw [e9, zno] at q9; cases q9
  have ne_q_59_no : q_59 ≠ no := fun e9 => by have q9 := in_q_59.1; rw [e9, zno] at q9; cases q9
  have fr_wo : frh G wo := frh.fr (frh0 zwo) fs
  have fr_no : frh G no := frh.fr (frh0 zno) fs
  have ic_q_1 := ic_q_1.keep (hfr q_1 (by rw [ic_q_1.1]; decide))
  have in_q_2 := in_q_2.keep (hfr q_2 (by rw [in_q_2.1]; decide))
  have l0_2 := l0_2.keep (hfr lb (by rw [l0_2.1]; decide))
  have l0_3 := l0_3.keep (hfr lc (by rw [l0_3.1]; decide))
  have iw_q_11 := iw_q_11.keep (hfr q_11 (by rw [iw_q_11.1]; decide))
  have in_q_22 := in_q_22.keep (hfr q_22 (by rw [in_q_22.1]; decide))
  have iw_q_44 := iw_q_44.keep (hfr q_44 (by rw [iw_q_44.1]; decide))
  have in_q_59 := in_q_59.keep (hfr q_59 (by rw [in_q_59.1]; decide))
  have lx := LSx_old lx hfr
  have fs : LFs G u.2 (fun b => b = la ∨ b = q_1) := fs.tr (LFs_of hfr _)
  have hL := hL9
  obtain ⟨L9, hL9e⟩ : ∃ z, z = u.1 := ⟨_, rfl⟩
  obtain ⟨G_87, hG9e⟩ : ∃ z, z = u.2 := ⟨_, rfl⟩
  rw [← hL9e, ← hG9e] at hP hD hL
  rw [← hG9e] at ic_q_1 in_q_2 l0_2 l0_3 iw_q_11 in_q_22 iw_q_44 in_q_59 iw_wo in_no lx fs
  clear hL9 hfr hL9e hG9e
  have hP : va_P (dC, dI) cl ([] ++ va_pl L9 (gE cO G_87)) H := hP
  have hD : va_D A ([] ++ va_pl L9 (gE cO G_87)) := hD
  refine wd_v (cx := []) (wr := []) (pl := va_pl L9 (gE cO G_87)) (va_runV (As := [.ref wo]) (rest := []) ⟨hx, hb, hml, hown, hts⟩ (p_Chip_addPin l dC dI cB cI cL cZ cC cO (G := G_87) q_1 wo la ((([] : List Nat) ++ [q_11]) ++ [q_44]) t0 _ hL ic_q_1.1 ic_q_1.2.2.2.2.1 lx iw_wo.1 (by rw [iw_wo.2.2.1]; decide) (by simp)) (cwV 1 hts (good_V k_250 k_251 k_252 k_9 k_253) rfl rfl rfl (by decide +kernel) ⟨Nat.le_of_ble_eq_true rfl, Nat.le_of_ble_eq_true rfl⟩) (wd_preV (ci := 6) (r := (R_Chip, F_Chip, 9)) hK hP hD hS hA hF hE [] (by decide) rfl rfl (pq_at (gL_m hL ic_q_1.1 (by decide)) (gE_6 (G := G_87) ic_q_1.1))) rfl rfl hl.1 rfl (lv_room (Nat.le_of_ble_eq_true rfl)) d_Chip_nand_74 ⟨Nat.le_of_ble_eq_true rfl, Nat.le_of_ble_eq_true rfl⟩) hP hD hS hA [] [] rfl rfl (by decide) (by decide) (fun u H locs w_88 hP hD hS => ?_)
  have hP : va_P (dC, dI) cl ([] ++ va_pl u.1 (gE cO u.2)) H := hP
  have hD : va_D A ([] ++ va_pl u.1 (gE cO u.2)) := hD
  obtain ⟨hl9, hL9, hfa, hgc⟩ := w_88
  rw [iw_wo.2.2.1] at hgc
  have in_q_2 := in_q_2.keep (hfa q_2 (by rw [in_q_2.1]; decide) (fun e9 => by have q9 := in_q_2.1; rw [e9, lx.k.1] at q9; cases q9) (fun e9 => by have q9 := in_q_2.1; rw [e9, ic_q_1.1] at q9; cases q9) (fun q9 => by have := q9.1; rw [in_q_2.1] at this; omega))
  have l0_2 := l0_2.keep (hfa lb (by rw [l0_2.1]; decide) (fun e9 => hne12 e9.symm) (fun e9 => by have q9 := l0_2.1; rw [e9, ic_q_1.1] at q9; cases q9) (fun q9 => by have := q9.1; rw [l0_2.1] at this; omega))
  have l0_3 := l0_3.keep (hfa lc (by rw [l0_3.1]; decide) (fun e9 => hne13 e9.symm) (fun e9 => by have q9 := l0_3.1; rw [e9, ic_q_1.1] at q9; cases q9) (fun q9 => by have := q9.1; rw [l0_3.1] at this; omega))
  have iw_q_11 := iw_q_11.keep (hfa q_11 (by rw [iw_q_11.1]; decide) (fun e9 => by have q9 := iw_q_11.1; rw [e9, lx.k.1] at q9; cases q9) (fun e9 => by have q9 := iw_q_11.1; rw [e9, ic_q_1.1] at q9; cases q9) (fun q9 => by have := q9.1; rw [iw_q_11.1] at this; omega))
  have in_q_22 := in_q_22.keep (hfa q_22 (by rw [in_q_22.1]; decide) (fun e9 => by have q9 := in_q_22.1; rw [e9, lx.k.1] at q9; cases q9) (fun e9 => by have q9 := in_q_22.1; rw [e9, ic_q_1.1] at q9; cases q9) (fun q9 => by have := q9.1; rw [in_q_22.1] at this; omega))
  have iw_q_44 := iw_q_44.keep (hfa q_44 (by rw [iw_q_44.1]; decide) (fun e9 => by have q9 := iw_q_44.1; rw [e9, lx.k.1] at q9; cases q9) (fun e9 => by have q9 := iw_q_44.1; rw [e9, ic_q_1.1] at q9; cases q9) (fun q9 => by have := q9.1; rw [iw_q_44.1] at this; omega))
  have in_q_59 := in_q_59.keep (hfa q_59 (by rw [in_q_59.1]; decide) (fun e9 => by have q9 := in_q_59.1; rw [e9, lx.k.1] at q9; cases q9) (fun e9 => by have q9 := in_q_59.1; rw [e9, ic_q_1.1] at q9; cases q9) (fun q9 => by have := q9.1; rw [in_q_59.1] at this; omega))
  have iw_wo := iw_wo.keep (hfa wo (by rw [iw_wo.1]; decide) (fun e9 => by have q9 := iw_wo.1; rw [e9, lx.k.1] at q9; cases q9) (fun e9 => by have q9 := iw_wo.1; rw [e9, ic_q_1.1] at q9; cases q9) (fun q9 => by have := q9.1; rw [iw_wo.1] at this; omega))
  have in_no := in_no.keep (hfa no (by rw [in_no.1]; decide) (fun e9 => by have q9 := in_no.1; rw [e9, lx.k.1] at q9; cases q9) (fun e9 => by have q9 := in_no.1; rw [e9, ic_q_1.1] at q9; cases q9) (fun q9 => by have := q9.1; rw [in_no.1] at this; omega))
  have fs : LFs G u.2 (fun b => b = la ∨ b = q_1) := fs.tr (LFs_LFa hfa lx.k.1 hl9.k.1 (by rw [hgc.1]; split <;> rfl))
  rw [if_neg (by decide)] at hgc
  have ic_q_1 := ic_q_1.keep hgc
  have lx := hl9
  have hL := hL9
  obtain ⟨L9, hL9e⟩ : ∃ z, z = u.1 := ⟨_, rfl⟩
  obtain ⟨G_90, hG9e⟩ : ∃ z, z = u.2 := ⟨_, rfl⟩
  rw [← hL9e, ← hG9e] at hP hD
  rw [← hG9e] at ic_q_1 in_q_2 l0_2 l0_3 iw_q_11 in_q_22 iw_q_44 in_q_59 iw_wo in_no lx fs
  rw [← hL9e, ← hG9e] at hL
  clear hL9 hfa hgc hl9 hL9e hG9e
  have hP : va_P (dC, dI) cl ([] ++ va_pl L9 (gE cO G_90)) H := hP
  have hD : va_D A ([] ++ va_pl L9 (gE cO G_90)) := hD
  refine lv_aload_n hx hb d_Chip_nand_77 rfl (lv_at hl 0 rfl) ?_
  have hxs : (((([] : List Nat) ++ [q_11]) ++ [q_44]) ++ [wo]) = [q_11, q_44, wo] := rfl
  rw [hxs] at lx
  have ly := LS0.x l0_2 (gs.rf G_90 lb)
  have hws : ∀ x9 ∈ [q_11, q_44, wo], G_90.1 x9 = 2 ∧ G_90.2.1 x9 1 < 3 := by
    intro x9 h9
    simp only [List.mem_cons, List.not_mem_nil, or_false] at h9
    rcases h9 with rfl | rfl | rfl
    · exact ⟨iw_q_11.1, by rw [iw_q_11.2.2.1]; decide⟩
    · exact ⟨iw_q_44.1, by rw [iw_q_44.2.2.1]; decide⟩
    · exact ⟨iw_wo.1, by rw [iw_wo.2.2.1]; decide⟩
  refine wd_v (cx := []) (wr := []) (pl := va_pl L9 (gE cO G_90)) (va_runV (As := []) (rest := []) ⟨hx, hb, hml, hown, hts⟩ (p_Chip_setOffsets l dC dI cB cI cL cZ cC cO (G := G_90) q_1 la lb [q_11, q_44, wo] [] t0 _ (by simp) (by simp) hL lx ly ic_q_1.1 ic_q_1.2.2.2.2.1 ic_q_1.2.2.2.2.2.1 hws (fun x9 h9 => absurd h9 List.not_mem_nil)) (cwV 0 hts (good_V k_320 k_321 k_322 k_9 k_323) rfl rfl rfl (by decide +kernel) ⟨Nat.le_of_ble_eq_true rfl, Nat.le_of_ble_eq_true rfl⟩) (wd_preV (ci := 6) (r := (R_Chip, F_Chip, 9)) hK hP hD hS hA hF hE [] (by decide) rfl rfl (pq_at (gL_m hL ic_q_1.1 (by decide)) (gE_6 (G := G_90) ic_q_1.1))) rfl rfl hl.1 rfl (lv_room (Nat.le_of_ble_eq_true rfl)) d_Chip_nand_78 ⟨Nat.le_of_ble_eq_true rfl, Nat.le_of_ble_eq_true rfl⟩) hP hD hS hA [] [] rfl rfl (by decide) (by decide) (fun u H locs w_91 hP hD hS => ?_)
  have hP : va_P (dC, dI) cl ([] ++ va_pl L9 (gE cO u)) H := hP
  have hD : va_D A ([] ++ va_pl L9 (gE cO u)) := hD
  have hu := w_91
  refine lv_aload_n hx hb d_Chip_nand_81 rfl (lv_at hl 0 rfl) ?_
  have hu : u = sfo q_1 [q_11, q_44, wo] 3 0 (gN (gN G_90 q_1 8 0) q_1 7 0) := hu
  have ww : ∀ i, i < [q_11, q_44, wo].length → isW G_90 ([q_11, q_44, wo][i]?.getD 0) ([q_22, q_59, no][i]?.getD 0) ([0, 0, 1][i]?.getD 0) ∧ isN G_90 ([q_22, q_59, no][i]?.getD 0) ([97, 98, 7304564][i]?.getD 0) 0 none := fun i h9 => by
    rcases (show i = 0 ∨ i = 1 ∨ i = 2 by simp at h9; omega) with rfl | rfl | rfl
    · exact ⟨iw_q_11, in_q_22⟩
    · exact ⟨iw_q_44, in_q_59⟩
    · exact ⟨iw_wo, in_no⟩
  have wf : ∀ i, i < [q_11, q_44, wo].length → frh G ([q_11, q_44, wo][i]?.getD 0) := fun i h9 => by
    rcases (show i = 0 ∨ i = 1 ∨ i = 2 by simp at h9; omega) with rfl | rfl | rfl
    · exact fr_q_11
    · exact fr_q_44
    · exact fr_wo
  have wd : ∀ i j, i < j → j < [q_11, q_44, wo].length → [q_11, q_44, wo][i]?.getD 0 ≠ [q_11, q_44, wo][j]?.getD 0 := fun i j h8 h9 => by
    rcases (show (i = 0 ∧ j = 1) ∨ (i = 0 ∧ j = 2) ∨ (i = 1 ∧ j = 2) by simp at h9; omega) with ⟨rfl, rfl⟩ | ⟨rfl, rfl⟩ | ⟨rfl, rfl⟩
    · exact ne_q_11_q_44
    · exact ne_q_11_wo
    · exact ne_q_44_wo
  have g9 := gt_fin (G0 := G) (ns := [q_22, q_59, no]) (ks := [0, 0, 1]) (os := [0, 1, 2]) (hs := [97, 98, 7304564]) (ip := 2) (nb := 3) hu wf wd ic_q_1 in_q_2 lx l0_2 l0_3 ww hL fs (Or.inr rfl) (by simp [swd, sinb, iw_q_11.2.2.2.1, iw_q_11.2.2.1, iw_q_44.2.2.2.1, iw_q_44.2.2.1, iw_wo.2.2.2.1, iw_wo.2.2.1]) (by simp [swd, sinb, iw_q_11.2.2.2.1, iw_q_11.2.2.1, iw_q_44.2.2.2.1, iw_q_44.2.2.1, iw_wo.2.2.2.1, iw_wo.2.2.1]) (fun i h9 => by rcases (show i = 0 ∨ i = 1 ∨ i = 2 by simp at h9; omega) with rfl | rfl | rfl <;> simp [swd, sinb, iw_q_11.2.2.2.1, iw_q_11.2.2.1, iw_q_44.2.2.2.1, iw_q_44.2.2.1, iw_wo.2.2.2.1, iw_wo.2.2.1])
  refine W.widen (k := 40) (n := 3000) (by omega) (by omega) ?_
  exact wr_q (r := some q_1) hx hb hr ⟨_, rfl⟩ hlocks (L9, u) ⟨q_1, q_2, la, lb, lc, q_11, q_44, wo, q_22, q_59, no, rfl, g9.1, g9.2.1, ⟨fz_q_1, fr_l1, fr_l2, fr_l3, fr_q_2, fr_q_11, fr_q_44, fr_wo, fr_q_22, fr_q_59, fr_no⟩, ⟨hne12, hne13, hne23⟩, ⟨ne_q_11_q_44, ne_q_11_wo, ne_q_44_wo⟩, ⟨ne_q_2_q_22, ne_q_2_q_59, ne_q_2_no, ne_q_22_q_59, ne_q_22_no, ne_q_59_no⟩, g9.2.2⟩ hK hP hD hS d_Chip_nand_82
theorem d_Chip_dff_0 : decode b_Chip_dff 0 = .ok (.new 11, 3) := by decide +kernel
theorem d_Chip_dff_3 : decode b_Chip_dff 3 = .ok (.dup, 1) := by decide +kernel
theorem d_Chip_dff_4 : decode b_Chip_dff 4 = .ok (.new 42, 3) := by decide +kernel
theorem d_Chip_dff_7 : decode b_Chip_dff 7 = .ok (.dup, 1) := by decide +kernel
theorem d_Chip_dff_8 : decode b_Chip_dff 8 = .ok (.ldc2_w 74, 3) := by decide +kernel
theorem d_Chip_dff_11 : decode b_Chip_dff 11 = .ok (.lconst 0, 1) := by decide +kernel
theorem d_Chip_dff_12 : decode b_Chip_dff 12 = .ok (.iconst (-1), 1) := by decide +kernel
theorem d_Chip_dff_13 : decode b_Chip_dff 13 = .ok (.invokespecial 48, 3) := by decide +kernel
theorem d_Chip_dff_16 : decode b_Chip_dff 16 = .ok (.iconst 2, 1) := by decide +kernel
theorem d_Chip_dff_17 : decode b_Chip_dff 17 = .ok (.iconst 0, 1) := by decide +kernel
theorem d_Chip_dff_18 : decode b_Chip_dff 18 = .ok (.invokespecial 51, 3) := by decide +kernel
theorem d_Chip_dff_21 : decode b_Chip_dff 21 = .ok (.astore_n 0, 1) := by decide +kernel
theorem d_Chip_dff_22 : decode b_Chip_dff 22 = .ok (.aload_n 0, 1) := by decide +kernel
theorem d_Chip_dff_23 : decode b_Chip_dff 23 = .ok (.new 54, 3) := by decide +kernel
theorem d_Chip_dff_26 : decode b_Chip_dff 26 = .ok (.dup, 1) := by decide +kernel
theorem d_Chip_dff_27 : decode b_Chip_dff 27 = .ok (.new 42, 3) := by decide +kernel
theorem d_Chip_dff_30 : decode b_Chip_dff 30 = .ok (.dup, 1) := by decide +kernel
theorem d_Chip_dff_31 : decode b_Chip_dff 31 = .ok (.ldc2_w 76, 3) := by decide +kernel
theorem d_Chip_dff_34 : decode b_Chip_dff 34 = .ok (.lconst 0, 1) := by decide +kernel
theorem d_Chip_dff_35 : decode b_Chip_dff 35 = .ok (.iconst (-1), 1) := by decide +kernel
theorem d_Chip_dff_36 : decode b_Chip_dff 36 = .ok (.invokespecial 48, 3) := by decide +kernel
theorem d_Chip_dff_39 : decode b_Chip_dff 39 = .ok (.iconst 0, 1) := by decide +kernel
theorem d_Chip_dff_40 : decode b_Chip_dff 40 = .ok (.invokespecial 58, 3) := by decide +kernel
theorem d_Chip_dff_43 : decode b_Chip_dff 43 = .ok (.invokevirtual 61, 3) := by decide +kernel
theorem d_Chip_dff_46 : decode b_Chip_dff 46 = .ok (.aload_n 0, 1) := by decide +kernel
theorem d_Chip_dff_47 : decode b_Chip_dff 47 = .ok (.invokestatic 67, 3) := by decide +kernel
theorem d_Chip_dff_50 : decode b_Chip_dff 50 = .ok (.invokevirtual 61, 3) := by decide +kernel
theorem d_Chip_dff_53 : decode b_Chip_dff 53 = .ok (.aload_n 0, 1) := by decide +kernel
theorem d_Chip_dff_54 : decode b_Chip_dff 54 = .ok (.invokevirtual 71, 3) := by decide +kernel
theorem d_Chip_dff_57 : decode b_Chip_dff 57 = .ok (.aload_n 0, 1) := by decide +kernel
theorem d_Chip_dff_58 : decode b_Chip_dff 58 = .ok (.areturn, 1) := by decide +kernel
set_option maxHeartbeats 4000000 in
set_option maxRecDepth 100000 in
/-- Chip_dff -/
theorem p_Chip_dff (l : Launch) (dC : Nat → ClassId) (dI : Nat → Nat → Nat) (cB cI cL cZ cC cO : ClassId) {L : List Nat} {G : PG} (t0 sz : Nat) (hL : gL L G)  : Met l y_Chip_dff w_Chip_dff ({ frames := 9, cells := 40, slots := 3000, locals := 560 }) (va_Pc [] (wB2 (dC, dI) cl [(cB, .byte), (cI, .int), (cL, .long), (cZ, .boolean), (cC, .char), (cO, .object "java/lang/Object")] sz t0 ([] ++ va_pl L (gE cO G)))) (va_Qq (fun (r : Option Nat) (u : List Nat × PG) => ∃ q nm la lb lc w0 w1 n0 n1, r = some q ∧ GPx t0 u.2 q nm la lb lc 2 1 2 4482662 [w0, w1] [n0, n1] [0, 1] [0, 1] [26990, 7304564] ∧ gL u.1 u.2 ∧ (G.1 q = 0 ∧ G.1 la = 0 ∧ G.1 lb = 0 ∧ G.1 lc = 0 ∧ frh G nm ∧ frh G w0 ∧ frh G w1 ∧ frh G n0 ∧ frh G n1) ∧ (la ≠ lb ∧ la ≠ lc ∧ lb ≠ lc) ∧ (w0 ≠ w1) ∧ (nm ≠ n0 ∧ nm ≠ n1 ∧ n0 ≠ n1) ∧ LFs G u.2 (fun b => b = la ∨ b = q)) (fun u t => wA (dC, dI) cl [(cB, .byte), (cI, .int), (cL, .long), (cZ, .boolean), (cC, .char), (cO, .object "java/lang/Object")] (va_A ([] ++ va_pl L (gE cO G)) sz) ([] ++ va_pl u.1 (gE cO u.2)) t) (va_A ([] ++ va_pl L (gE cO G)) sz)) 40 3000 (va_A ([] ++ va_pl L (gE cO G)) sz) := by
  refine Met.ofW (cc := b_Chip_dff) (maxL := 1) (ret := (some (ClassFile.FieldType.object "ChipDesk$Chip"))) (by decide) rfl ?_
  intro p e s m args below meth c s₁ B hml hv
  obtain ⟨rfl, ⟨hsz, hP, hK, hD0, hF⟩, hE⟩ := hv
  have hx := B.exec
  have hb := B.bytes
  have hr := B.returns
  have hts := atoms_spec (ws := w_Chip_dff) B.pre
  have hts : ∀ w ∈ tb, w.before _ s = true := fun w h => hts w (List.mem_cons_of_mem _ h)
  have hown : s.vm.findClass R_Chip = some m.cls := findClass_of_methodNamed B.named
  have hlocks := B.notSynchronized
  subst hsz
  have hD := hD0.self (sz := s.heap.size)
  generalize hAe : va_A ([] ++ va_pl L (gE cO G)) s.heap.size = A at hD hF hE ⊢
  have hA : ∀ q : Nat, s.heap.size ≤ q → A q := fun q h => by rw [← hAe]; exact Or.inr h
  have hS : va_S A s.heap s.heap [] := va_S.rf
  have hP : va_P (dC, dI) cl ([] ++ va_pl L (gE cO G)) s.heap := hP
  have hl := lv_entry ([]) (n := 1) (Nat.le_of_ble_eq_true rfl)
  rw [lg_entry_eq]
  generalize (lg_sl ([]) ++ List.replicate (1 - (lg_sl ([])).length) Slot.unset).toArray = ls at hl ⊢
  have hl : lv_has ls 1 [] := hl
  have fo : ∀ b, G.1 b ≠ 0 → gs G G b := fun b _ => gs.rf G b
  refine pq_new (ci := 6) (fs := [.null, .int (nI 0), .int (nI 0), .null, .null, .null, .int (nI 0), .int (nI 0), .int (nI 0)]) (C := R_Chip) (T := F_Chip) (N := 9) (fn := fun q9 => gE cO (g0 G q9 6)) hx hb hts i_Chip t_Chip t_Chip_ok hown (hts _ k_138) (hts _ k_139) (hts _ k_9) hK hP hD hS hA rfl (fun j hj => by rcases (show j = 0 ∨ j = 1 ∨ j = 2 ∨ j = 3 ∨ j = 4 ∨ j = 5 ∨ j = 6 ∨ j = 7 ∨ j = 8 by omega) with rfl | rfl | rfl | rfl | rfl | rfl | rfl | rfl | rfl <;> rfl) (Nat.le_of_ble_eq_true rfl) (Nat.le_of_ble_eq_true rfl) (fun q9 => nE_6 (G := G) q9) d_Chip_dff_0 (fun q_1 H nq_1 hP hD hS => ?_)
  have hL0 := hL
  have hz9 : G.1 q_1 = 0 := g0_n hL nq_1
  replace hL := gL_new (a := q_1) (n := 6) hL
  have hP : va_P (dC, dI) cl ([] ++ va_pl (L ++ [q_1]) (gE cO (g0 G q_1 6))) H := hP
  have hD : va_D A ([] ++ va_pl (L ++ [q_1]) (gE cO (g0 G q_1 6))) := hD
  refine lv_dup hx hb d_Chip_dff_3 rfl ?_
  have hz_q_1 : G.1 q_1 = 0 := hz9
  refine pq_new (ci := 7) (fs := [.long 0, .long 0, .int (nI 0)]) (C := R_Name) (T := F_Name) (N := 3) (fn := fun q9 => gE cO (g0 (g0 G q_1 6) q9 1)) hx hb hts i_Name t_Name t_Name_ok hown (hts _ k_140) (hts _ k_141) (hts _ k_10) hK hP hD hS hA rfl (fun j hj => by rcases (show j = 0 ∨ j = 1 ∨ j = 2 by omega) with rfl | rfl | rfl <;> rfl) (Nat.le_of_ble_eq_true rfl) (Nat.le_of_ble_eq_true rfl) (fun q9 => nE_1 (G := (g0 G q_1 6)) q9) d_Chip_dff_4 (fun q_2 H nq_2 hP hD hS => ?_)
  have kf_3 : (g0 (g0 G q_1 6) q_2 1).1 q_1 = 6 := (g0_k hL (g0_q G q_1 6) (by decide) nq_2)
  have ne_4 : q_1 ≠ q_2 := g0_ne hL (g0_q G q_1 6) (by decide) nq_2
  have hL0 := hL
  have hz9 : (g0 G q_1 6).1 q_2 = 0 := g0_n hL nq_2
  replace hL := gL_new (a := q_2) (n := 1) hL
  have hP : va_P (dC, dI) cl ([] ++ va_pl (L ++ [q_1] ++ [q_2]) (gE cO (g0 (g0 G q_1 6) q_2 1))) H := hP
  have hD : va_D A ([] ++ va_pl (L ++ [q_1] ++ [q_2]) (gE cO (g0 (g0 G q_1 6) q_2 1))) := hD
  refine lv_dup hx hb d_Chip_dff_7 rfl ?_
  refine lv_ldc2 (v := 4482662) hx hb hown (hts _ k_349) d_Chip_dff_8 ?_
  refine lv_lconst (v := 0) hx hb d_Chip_dff_11 (by decide) ?_
  refine lv_iconst (v := (-1)) hx hb d_Chip_dff_12 (by decide) ?_
  have hz_q_2 : (g0 G q_1 6).1 q_2 = 0 := hz9
  have hN := isN_new (q := q_2) (hh := 4482662) (tt := 0) (pl := none) hL0
  refine wd_v (cx := []) (wr := []) (pl := va_pl (L ++ [q_1] ++ [q_2]) (gE cO (g0 (g0 G q_1 6) q_2 1))) (va_runI (As := [.long 4482662, .long 0, .int (oI none)]) (rest := [.ref q_2, .ref q_1, .ref q_1]) ⟨hx, hb, hml, hown, hts⟩ (p_Name_init l dC dI cB cI cL cZ cC cO (G := g0 (g0 G q_1 6) q_2 1) q_2 4482662 0 none t0 _ hL (g0_q (g0 G q_1 6) q_2 1)) (cwI 3 hts (good_c k_145) rfl rfl rfl (hts _ k_10) (hts _ k_143) (hts _ k_144) rfl (by decide +kernel) ⟨Nat.le_of_ble_eq_true rfl, Nat.le_of_ble_eq_true rfl⟩) (wd_preS hK hP hD hS hA hF hE [] (by decide) rfl) rfl rfl hl.1 rfl (lv_room (Nat.le_of_ble_eq_true rfl)) d_Chip_dff_13 ⟨Nat.le_of_ble_eq_true rfl, Nat.le_of_ble_eq_true rfl⟩) hP hD hS hA [] [] rfl rfl (by decide) (by decide) (fun _ H locs w_6 hP hD hS => ?_)
  have hP : va_P (dC, dI) cl ([] ++ va_pl (L ++ [q_1] ++ [q_2]) (gE cO (nam (g0 G q_1 6) q_2 4482662 0 none))) H := hP
  have hD : va_D A ([] ++ va_pl (L ++ [q_1] ++ [q_2]) (gE cO (nam (g0 G q_1 6) q_2 4482662 0 none))) := hD
  generalize nam (g0 G q_1 6) q_2 4482662 0 none = N_5 at hP hD hN
  obtain ⟨in_q_2, hL, hfN⟩ := hN
  refine lv_iconst (v := nI 2) hx hb d_Chip_dff_16 (by decide) ?_
  refine lv_iconst (v := nI 0) hx hb d_Chip_dff_17 (by decide) ?_
  have kq : N_5.1 q_1 = 6 := (hfN q_1 (fun e9 => by have q9 := hz_q_2; rw [← e9, g0_q] at q9; cases q9)).1.trans (g0_q _ _ _)
  refine wd_v (cx := []) (wr := []) (pl := va_pl (L ++ [q_1] ++ [q_2]) (gE cO N_5)) (va_runI (As := [.ref q_2, .int (nI 2), .int (nI 0)]) (rest := [.ref q_1]) ⟨hx, hb, hml, hown, hts⟩ (p_Chip_init l dC dI cB cI cL cZ cC cO (G := N_5) q_1 q_2 2 0 t0 _ hL kq) (cwI 3 hts (good_c k_161) rfl rfl rfl (hts _ k_9) (hts _ k_159) (hts _ k_160) rfl (by decide +kernel) ⟨Nat.le_of_ble_eq_true rfl, Nat.le_of_ble_eq_true rfl⟩) (wd_preS hK hP hD hS hA hF hE [] (by decide) rfl) rfl rfl hl.1 rfl (lv_room (Nat.le_of_ble_eq_true rfl)) d_Chip_dff_18 ⟨Nat.le_of_ble_eq_true rfl, Nat.le_of_ble_eq_true rfl⟩) hP hD hS hA [] [] rfl rfl (by decide) (by decide) (fun v9 H locs w_8 hP hD hS => ?_)
  have hP : va_P (dC, dI) cl ([] ++ va_pl (L ++ [q_1] ++ [q_2] ++ [v9.1] ++ [v9.2.1] ++ [v9.2.2]) (gE cO (chp t0 N_5 q_1 q_2 2 0 v9.1 v9.2.1 v9.2.2))) H := hP
  have hD : va_D A ([] ++ va_pl (L ++ [q_1] ++ [q_2] ++ [v9.1] ++ [v9.2.1] ++ [v9.2.2]) (gE cO (chp t0 N_5 q_1 q_2 2 0 v9.1 v9.2.1 v9.2.2))) := hD
  obtain ⟨p1, p2, p3⟩ := w_8
  obtain ⟨ic_q_1, l0_1, l0_2, l0_3, hL2⟩ := isC_new (t0 := t0) (nm := q_2) (gt := 2) (ix := 0) hL kq p1 p2 p3
  have kz1 : N_5.1 v9.1 = 0 := g0_n hL p1
  have kz2 : N_5.1 v9.2.1 = 0 := g0_n hL (fun q9 => p2 (List.mem_append_left _ q9))
  have kz3 : N_5.1 v9.2.2 = 0 := g0_n hL (fun q9 => p3 (List.mem_append_left _ (List.mem_append_left _ q9)))
  have hqn : q_1 ≠ q_2 := fun e9 => by have q9 := kq; rw [e9, in_q_2.1] at q9; cases q9
  have hcg : ∀ b, b ≠ q_1 → N_5.1 b ≠ 0 → gs N_5 (chp t0 N_5 q_1 q_2 2 0 v9.1 v9.2.1 v9.2.2) b := fun b e1 e2 => chp_gs e1 (fun e9 => e2 (by rw [e9]; exact kz1)) (fun e9 => e2 (by rw [e9]; exact kz2)) (fun e9 => e2 (by rw [e9]; exact kz3))
  have in_q_2 : isN (chp t0 N_5 q_1 q_2 2 0 v9.1 v9.2.1 v9.2.2) q_2 _ _ _ := in_q_2.keep (hcg q_2 (Ne.symm hqn) (by rw [in_q_2.1]; decide))
  have hy_q_2 : G.1 q_2 = 0 := by have q9 := hz_q_2; rw [(gs_0 (Ne.symm hqn)).1] at q9; exact q9
  have hf1 : ∀ b, G.1 b ≠ 0 → gs G N_5 b := fun b h9 => (gs_0 (fun e9 => h9 (by rw [e9]; exact hz_q_1))).tr (hfN b (fun e9 => h9 (by rw [e9]; exact hy_q_2)))
  have fo : ∀ b, G.1 b ≠ 0 → gs G (chp t0 N_5 q_1 q_2 2 0 v9.1 v9.2.1 v9.2.2) b := fun b h9 => (hf1 b h9).tr (hcg b (fun e9 => h9 (by rw [e9]; exact hz_q_1)) (by rw [(hf1 b h9).1]; exact h9))
  have fr_l1 : G.1 v9.1 = 0 := Classical.byContradiction (fun h9 => h9 ((hf1 v9.1 h9).1.symm.trans kz1))
  have fr_l2 : G.1 v9.2.1 = 0 := Classical.byContradiction (fun h9 => h9 ((hf1 v9.2.1 h9).1.symm.trans kz2))
  have fr_l3 : G.1 v9.2.2 = 0 := Classical.byContradiction (fun h9 => h9 ((hf1 v9.2.2 h9).1.symm.trans kz3))
  have hne12 : v9.1 ≠ v9.2.1 := fun e9 => p2 (e9 ▸ List.mem_append_right _ (List.mem_singleton.mpr rfl))
  have hne13 : v9.1 ≠ v9.2.2 := fun e9 => p3 (e9 ▸ List.mem_append_left _ (List.mem_append_right _ (List.mem_singleton.mpr rfl)))
  have hne23 : v9.2.1 ≠ v9.2.2 := fun e9 => p3 (e9 ▸ List.mem_append_right _ (List.mem_singleton.mpr rfl))
  have hL := hL2
  generalize chp t0 N_5 q_1 q_2 2 0 v9.1 v9.2.1 v9.2.2 = G_10 at hP hD ic_q_1 l0_1 l0_2 l0_3 hL in_q_2 fo
  generalize v9.1 = la at *
  generalize v9.2.1 = lb at *
  generalize v9.2.2 = lc at *
  have hP : va_P (dC, dI) cl ([] ++ va_pl (L ++ [q_1] ++ [q_2] ++ [la] ++ [lb] ++ [lc]) (gE cO G_10)) H := hP
  have hD : va_D A ([] ++ va_pl (L ++ [q_1] ++ [q_2] ++ [la] ++ [lb] ++ [lc]) (gE cO G_10)) := hD
  have lx := LS0.x l0_1 (gs.rf G_10 la)
  have fs : LFs G G_10 (fun b => b = la ∨ b = q_1) := LFs_of fo _
  have fz_q_1 := hz_q_1
  have fr_q_1 : frh G q_1 := frh0 hz_q_1
  have fr_q_2 : frh G q_2 := frh0 hy_q_2
  clear fo
  refine lv_astore_n (lv' := [(0, .ref q_1)]) hx hb d_Chip_dff_21 rfl hl (by decide) rfl (fun ls hl => ?_)
  refine lv_aload_n hx hb d_Chip_dff_22 rfl (lv_at hl 0 rfl) ?_
  refine pq_new (ci := 8) (fs := [.null, .int (nI 0), .int (nI 0), .int (nI 0), .int (nI 0), .int (nI 0), .int (nI 0)]) (C := R_Wire) (T := F_Wire) (N := 7) (fn := fun q9 => gE cO (g0 G_10 q9 2)) hx hb hts i_Wire t_Wire t_Wire_ok hown (hts _ k_207) (hts _ k_208) (hts _ k_11) hK hP hD hS hA rfl (fun j hj => by rcases (show j = 0 ∨ j = 1 ∨ j = 2 ∨ j = 3 ∨ j = 4 ∨ j = 5 ∨ j = 6 by omega) with rfl | rfl | rfl | rfl | rfl | rfl | rfl <;> rfl) (Nat.le_of_ble_eq_true rfl) (Nat.le_of_ble_eq_true rfl) (fun q9 => nE_2 (G := G_10) q9) d_Chip_dff_23 (fun q_11 H nq_11 hP hD hS => ?_)
  have kf_12 : (g0 G_10 q_11 2).1 q_1 = 6 := (g0_k hL ic_q_1.1 (by decide) nq_11)
  have ne_13 : q_1 ≠ q_11 := g0_ne hL ic_q_1.1 (by decide) nq_11
  have kf_14 : (g0 G_10 q_11 2).1 q_2 = 1 := (g0_k hL in_q_2.1 (by decide) nq_11)
  have ne_15 : q_2 ≠ q_11 := g0_ne hL in_q_2.1 (by decide) nq_11
  have kf_16 : (g0 G_10 q_11 2).1 lb = 7 := (g0_k hL l0_2.1 (by decide) nq_11)
  have ne_17 : lb ≠ q_11 := g0_ne hL l0_2.1 (by decide) nq_11
  have kf_18 : (g0 G_10 q_11 2).1 lc = 7 := (g0_k hL l0_3.1 (by decide) nq_11)
  have ne_19 : lc ≠ q_11 := g0_ne hL l0_3.1 (by decide) nq_11
  have kf_20 : (g0 G_10 q_11 2).1 la = 7 := (g0_k hL lx.k.1 (by decide) nq_11)
  have ne_21 : la ≠ q_11 := g0_ne hL lx.k.1 (by decide) nq_11
  have hL0 := hL
  have hz9 : G_10.1 q_11 = 0 := g0_n hL nq_11
  replace hL := gL_new (a := q_11) (n := 2) hL
  have hP : va_P (dC, dI) cl ([] ++ va_pl (L ++ [q_1] ++ [q_2] ++ [la] ++ [lb] ++ [lc] ++ [q_11]) (gE cO (g0 G_10 q_11 2))) H := hP
  have hD : va_D A ([] ++ va_pl (L ++ [q_1] ++ [q_2] ++ [la] ++ [lb] ++ [lc] ++ [q_11]) (gE cO (g0 G_10 q_11 2))) := hD
  refine lv_dup hx hb d_Chip_dff_26 rfl ?_
  have hz_q_11 : G_10.1 q_11 = 0 := hz9
  refine pq_new (ci := 7) (fs := [.long 0, .long 0, .int (nI 0)]) (C := R_Name) (T := F_Name) (N := 3) (fn := fun q9 => gE cO (g0 (g0 G_10 q_11 2) q9 1)) hx hb hts i_Name t_Name t_Name_ok hown (hts _ k_140) (hts _ k_141) (hts _ k_10) hK hP hD hS hA rfl (fun j hj => by rcases (show j = 0 ∨ j = 1 ∨ j = 2 by omega) with rfl | rfl | rfl <;> rfl) (Nat.le_of_ble_eq_true rfl) (Nat.le_of_ble_eq_true rfl) (fun q9 => nE_1 (G := (g0 G_10 q_11 2)) q9) d_Chip_dff_27 (fun q_22 H nq_22 hP hD hS => ?_)
  have kf_23 : (g0 (g0 G_10 q_11 2) q_22 1).1 q_1 = 6 := (g0_k hL kf_12 (by decide) nq_22)
  have ne_24 : q_1 ≠ q_22 := g0_ne hL kf_12 (by decide) nq_22
  have kf_25 : (g0 (g0 G_10 q_11 2) q_22 1).1 q_2 = 1 := (g0_k hL kf_14 (by decide) nq_22)
  have ne_26 : q_2 ≠ q_22 := g0_ne hL kf_14 (by decide) nq_22
  have kf_27 : (g0 (g0 G_10 q_11 2) q_22 1).1 lb = 7 := (g0_k hL kf_16 (by decide) nq_22)
  have ne_28 : lb ≠ q_22 := g0_ne hL kf_16 (by decide) nq_22
  have kf_29 : (g0 (g0 G_10 q_11 2) q_22 1).1 lc = 7 := (g0_k hL kf_18 (by decide) nq_22)
  have ne_30 : lc ≠ q_22 := g0_ne hL kf_18 (by decide) nq_22
  have kf_31 : (g0 (g0 G_10 q_11 2) q_22 1).1 la = 7 := (g0_k hL kf_20 (by decide) nq_22)
  have ne_32 : la ≠ q_22 := g0_ne hL kf_20 (by decide) nq_22
  have kf_33 : (g0 (g0 G_10 q_11 2) q_22 1).1 q_11 = 2 := (g0_k hL (g0_q G_10 q_11 2) (by decide) nq_22)
  have ne_34 : q_11 ≠ q_22 := g0_ne hL (g0_q G_10 q_11 2) (by decide) nq_22
  have hL0 := hL
  have hz9 : (g0 G_10 q_11 2).1 q_22 = 0 := g0_n hL nq_22
  replace hL := gL_new (a := q_22) (n := 1) hL
  have hP : va_P (dC, dI) cl ([] ++ va_pl (L ++ [q_1] ++ [q_2] ++ [la] ++ [lb] ++ [lc] ++ [q_11] ++ [q_22]) (gE cO (g0 (g0 G_10 q_11 2) q_22 1))) H := hP
  have hD : va_D A ([] ++ va_pl (L ++ [q_1] ++ [q_2] ++ [la] ++ [lb] ++ [lc] ++ [q_11] ++ [q_22]) (gE cO (g0 (g0 G_10 q_11 2) q_22 1))) := hD
  refine lv_dup hx hb d_Chip_dff_30 rfl ?_
  refine lv_ldc2 (v := 26990) hx hb hown (hts _ k_350) d_Chip_dff_31 ?_
  refine lv_lconst (v := 0) hx hb d_Chip_dff_34 (by decide) ?_
  refine lv_iconst (v := (-1)) hx hb d_Chip_dff_35 (by decide) ?_
  have hz_q_22 : (g0 G_10 q_11 2).1 q_22 = 0 := hz9
  have hN := isN_new (q := q_22) (hh := 26990) (tt := 0) (pl := none) hL0
  refine wd_v (cx := []) (wr := []) (pl := va_pl (L ++ [q_1] ++ [q_2] ++ [la] ++ [lb] ++ [lc] ++ [q_11] ++ [q_22]) (gE cO (g0 (g0 G_10 q_11 2) q_22 1))) (va_runI (As := [.long 26990, .long 0, .int (oI none)]) (rest := [.ref q_22, .ref q_11, .ref q_11, .ref q_1]) ⟨hx, hb, hml, hown, hts⟩ (p_Name_init l dC dI cB cI cL cZ cC cO (G := g0 (g0 G_10 q_11 2) q_22 1) q_22 26990 0 none t0 _ hL (g0_q (g0 G_10 q_11 2) q_22 1)) (cwI 3 hts (good_c k_145) rfl rfl rfl (hts _ k_10) (hts _ k_143) (hts _ k_144) rfl (by decide +kernel) ⟨Nat.le_of_ble_eq_true rfl, Nat.le_of_ble_eq_true rfl⟩) (wd_preS hK hP hD hS hA hF hE [] (by decide) rfl) rfl rfl hl.1 rfl (lv_room (Nat.le_of_ble_eq_true rfl)) d_Chip_dff_36 ⟨Nat.le_of_ble_eq_true rfl, Nat.le_of_ble_eq_true rfl⟩) hP hD hS hA [] [] rfl rfl (by decide) (by decide) (fun _ H locs w_36 hP hD hS => ?_)
  have hP : va_P (dC, dI) cl ([] ++ va_pl (L ++ [q_1] ++ [q_2] ++ [la] ++ [lb] ++ [lc] ++ [q_11] ++ [q_22]) (gE cO (nam (g0 G_10 q_11 2) q_22 26990 0 none))) H := hP
  have hD : va_D A ([] ++ va_pl (L ++ [q_1] ++ [q_2] ++ [la] ++ [lb] ++ [lc] ++ [q_11] ++ [q_22]) (gE cO (nam (g0 G_10 q_11 2) q_22 26990 0 none))) := hD
  generalize nam (g0 G_10 q_11 2) q_22 26990 0 none = N_35 at hP hD hN
  obtain ⟨in_q_22, hL, hfN⟩ := hN
  refine lv_iconst (v := nI 0) hx hb d_Chip_dff_39 (by decide) ?_
  have kq : N_35.1 q_11 = 2 := (hfN q_11 (fun e9 => by have q9 := hz_q_22; rw [← e9, g0_q] at q9; cases q9)).1.trans (g0_q _ _ _)
  refine wd_v (cx := []) (wr := []) (pl := va_pl (L ++ [q_1] ++ [q_2] ++ [la] ++ [lb] ++ [lc] ++ [q_11] ++ [q_22]) (gE cO N_35)) (va_runI (As := [.ref q_22, .int (nI 0)]) (rest := [.ref q_11, .ref q_1]) ⟨hx, hb, hml, hown, hts⟩ (p_Wire_init l dC dI cB cI cL cZ cC cO (G := N_35) q_11 q_22 0 t0 _ hL kq) (cwI 2 hts (good_c k_212) rfl rfl rfl (hts _ k_11) (hts _ k_210) (hts _ k_211) rfl (by decide +kernel) ⟨Nat.le_of_ble_eq_true rfl, Nat.le_of_ble_eq_true rfl⟩) (wd_preS hK hP hD hS hA hF hE [] (by decide) rfl) rfl rfl hl.1 rfl (lv_room (Nat.le_of_ble_eq_true rfl)) d_Chip_dff_40 ⟨Nat.le_of_ble_eq_true rfl, Nat.le_of_ble_eq_true rfl⟩) hP hD hS hA [] [] rfl rfl (by decide) (by decide) (fun _ H locs w_38 hP hD hS => ?_)
  have hP : va_P (dC, dI) cl ([] ++ va_pl (L ++ [q_1] ++ [q_2] ++ [la] ++ [lb] ++ [lc] ++ [q_11] ++ [q_22]) (gE cO (wir N_35 q_11 q_22 0))) H := hP
  have hD : va_D A ([] ++ va_pl (L ++ [q_1] ++ [q_2] ++ [la] ++ [lb] ++ [lc] ++ [q_11] ++ [q_22]) (gE cO (wir N_35 q_11 q_22 0))) := hD
  have iw_q_11 := isW_of (nm := q_22) (k := 0) kq
  have hqn : q_11 ≠ q_22 := fun e9 => by have q9 := kq; rw [e9, in_q_22.1] at q9; cases q9
  have in_q_22 : isN (wir N_35 q_11 q_22 0) q_22 _ _ _ := in_q_22.keep (wir_gs (Ne.symm hqn))
  have hy_q_22 : G_10.1 q_22 = 0 := by have q9 := hz_q_22; rw [(gs_0 (Ne.symm hqn)).1] at q9; exact q9
  have hfr : ∀ b, G_10.1 b ≠ 0 → gs G_10 (wir N_35 q_11 q_22 0) b := fun b h9 => ((gs_0 (fun e9 => h9 (by rw [e9]; exact hz_q_11))).tr (hfN b (fun e9 => h9 (by rw [e9]; exact hy_q_22)))).tr (wir_gs (fun e9 => h9 (by rw [e9]; exact hz_q_11)))
  have hL : gL (L ++ [q_1] ++ [q_2] ++ [la] ++ [lb] ++ [lc] ++ [q_11] ++ [q_22]) (wir N_35 q_11 q_22 0) := hL
  generalize wir N_35 q_11 q_22 0 = G_40 at hP hD iw_q_11 in_q_22 hfr hL
  have ne_q_1_q_11 : q_1 ≠ q_11 := fun e9 => by have q9 := ic_q_1.1; rw [e9, hz_q_11] at q9; cases q9
  have ne_q_2_q_11 : q_2 ≠ q_11 := fun e9 => by have q9 := in_q_2.1; rw [e9, hz_q_11] at q9; cases q9
  have ne_lb_q_11 : lb ≠ q_11 := fun e9 => by have q9 := l0_2.1; rw [e9, hz_q_11] at q9; cases q9
  have ne_lc_q_11 : lc ≠ q_11 := fun e9 => by have q9 := l0_3.1; rw [e9, hz_q_11] at q9; cases q9
  have ne_q_1_q_22 : q_1 ≠ q_22 := fun e9 => by have q9 := ic_q_1.1; rw [e9, hy_q_22] at q9; cases q9
  have ne_q_2_q_22 : q_2 ≠ q_22 := fun e9 => by have q9 := in_q_2.1; rw [e9, hy_q_22] at q9; cases q9
  have ne_lb_q_22 : lb ≠ q_22 := fun e9 => by have q9 := l0_2.1; rw [e9, hy_q_22] at q9; cases q9
  have ne_lc_q_22 : lc ≠ q_22 := fun e9 => by have q9 := l0_3.1; rw [e9, hy_q_22] at q9; cases q9
  have fr_q_11 : frh G q_11 := frh.fr (frh0 hz_q_11) fs
  have fr_q_22 : frh G q_22 := frh.fr (frh0 hy_q_22) fs
  have ic_q_1 := ic_q_1.keep (hfr q_1 (by rw [ic_q_1.1]; decide))
  have in_q_2 := in_q_2.keep (hfr q_2 (by rw [in_q_2.1]; decide))
  have l0_2 := l0_2.keep (hfr lb (by rw [l0_2.1]; decide))
  have l0_3 := l0_3.keep (hfr lc (by rw [l0_3.1]; decide))
  have fs : LFs G G_40 (fun b => b = la ∨ b = q_1) := fs.tr (LFs_of hfr _)
  have lx := LSx_old lx hfr
  refine wd_v (cx := []) (wr := []) (pl := va_pl (L ++ [q_1] ++ [q_2] ++ [la] ++ [lb] ++ [lc] ++ [q_11] ++ [q_22]) (gE cO G_40)) (va_runV (As := [.ref q_11]) (rest := []) ⟨hx, hb, hml, hown, hts⟩ (p_Chip_addPin l dC dI cB cI cL cZ cC cO (G := G_40) q_1 q_11 la ([] : List Nat) t0 _ hL ic_q_1.1 ic_q_1.2.2.2.2.1 lx iw_q_11.1 (by rw [iw_q_11.2.2.1]; decide) (by simp)) (cwV 1 hts (good_V k_250 k_251 k_252 k_9 k_253) rfl rfl rfl (by decide +kernel) ⟨Nat.le_of_ble_eq_true rfl, Nat.le_of_ble_eq_true rfl⟩) (wd_preV (ci := 6) (r := (R_Chip, F_Chip, 9)) hK hP hD hS hA hF hE [] (by decide) rfl rfl (pq_at (gL_m hL ic_q_1.1 (by decide)) (gE_6 (G := G_40) ic_q_1.1))) rfl rfl hl.1 rfl (lv_room (Nat.le_of_ble_eq_true rfl)) d_Chip_dff_43 ⟨Nat.le_of_ble_eq_true rfl, Nat.le_of_ble_eq_true rfl⟩) hP hD hS hA [] [] rfl rfl (by decide) (by decide) (fun u H locs w_41 hP hD hS => ?_)
  have hP : va_P (dC, dI) cl ([] ++ va_pl u.1 (gE cO u.2)) H := hP
  have hD : va_D A ([] ++ va_pl u.1 (gE cO u.2)) := hD
  obtain ⟨hl9, hL9, hfa, hgc⟩ := w_41
  rw [iw_q_11.2.2.1] at hgc
  have in_q_2 := in_q_2.keep (hfa q_2 (by rw [in_q_2.1]; decide) (fun e9 => by have q9 := in_q_2.1; rw [e9, lx.k.1] at q9; cases q9) (fun e9 => by have q9 := in_q_2.1; rw [e9, ic_q_1.1] at q9; cases q9) (fun q9 => by have := q9.1; rw [in_q_2.1] at this; omega))
  have l0_2 := l0_2.keep (hfa lb (by rw [l0_2.1]; decide) (fun e9 => hne12 e9.symm) (fun e9 => by have q9 := l0_2.1; rw [e9, ic_q_1.1] at q9; cases q9) (fun q9 => by have := q9.1; rw [l0_2.1] at this; omega))
  have l0_3 := l0_3.keep (hfa lc (by rw [l0_3.1]; decide) (fun e9 => hne13 e9.symm) (fun e9 => by have q9 := l0_3.1; rw [e9, ic_q_1.1] at q9; cases q9) (fun q9 => by have := q9.1; rw [l0_3.1] at this; omega))
  have iw_q_11 := iw_q_11.keep (hfa q_11 (by rw [iw_q_11.1]; decide) (fun e9 => by have q9 := iw_q_11.1; rw [e9, lx.k.1] at q9; cases q9) (fun e9 => by have q9 := iw_q_11.1; rw [e9, ic_q_1.1] at q9; cases q9) (fun q9 => by have := q9.1; rw [iw_q_11.1] at this; omega))
  have in_q_22 := in_q_22.keep (hfa q_22 (by rw [in_q_22.1]; decide) (fun e9 => by have q9 := in_q_22.1; rw [e9, lx.k.1] at q9; cases q9) (fun e9 => by have q9 := in_q_22.1; rw [e9, ic_q_1.1] at q9; cases q9) (fun q9 => by have := q9.1; rw [in_q_22.1] at this; omega))
  have fs : LFs G u.2 (fun b => b = la ∨ b = q_1) := fs.tr (LFs_LFa hfa lx.k.1 hl9.k.1 (by rw [hgc.1]; split <;> rfl))
  rw [if_pos rfl] at hgc
  have ic_q_1 := isC_add ic_q_1 hgc
  have lx := hl9
  have hL := hL9
  obtain ⟨L9, hL9e⟩ : ∃ z, z = u.1 := ⟨_, rfl⟩
  obtain ⟨G_43, hG9e⟩ : ∃ z, z = u.2 := ⟨_, rfl⟩
  rw [← hL9e, ← hG9e] at hP hD
  rw [← hG9e] at ic_q_1 in_q_2 l0_2 l0_3 iw_q_11 in_q_22 lx fs
  rw [← hL9e, ← hG9e] at hL
  clear hL9 hfa hgc hl9 hL9e hG9e
  have hP : va_P (dC, dI) cl ([] ++ va_pl L9 (gE cO G_43)) H := hP
  have hD : va_D A ([] ++ va_pl L9 (gE cO G_43)) := hD
  refine lv_aload_n hx hb d_Chip_dff_46 rfl (lv_at hl 0 rfl) ?_
  refine wd_q (cx := []) (wr := []) (pl := va_pl L9 (gE cO G_43)) (va_runS (As := []) (rest := [.ref q_1]) ⟨hx, hb, hml, hown, hts⟩ (p_Chip_outOfGate l dC dI cB cI cL cZ cC cO (G := G_43) t0 _ hL) (va_cwS 0 hts (good_S k_316 k_317 k_9 k_318) rfl rfl rfl (by decide +kernel) ⟨Nat.le_of_ble_eq_true rfl, Nat.le_of_ble_eq_true rfl⟩) (wd_preS hK hP hD hS hA hF hE [] (by decide) rfl) rfl rfl hl.1 rfl (lv_room (Nat.le_of_ble_eq_true rfl)) d_Chip_dff_47 ⟨Nat.le_of_ble_eq_true rfl, Nat.le_of_ble_eq_true rfl⟩) hP hD hS hA [] [] rfl rfl (by decide) (by decide) (fun r_45 u H locs w_44 hP hD hS => ?_)
  have hP : va_P (dC, dI) cl ([] ++ va_pl u.1 (gE cO u.2)) H := hP
  have hD : va_D A ([] ++ va_pl u.1 (gE cO u.2)) := hD
  obtain ⟨wo, no, r_45e, zwo, zno, in_no, iw_wo, hL9, hfr⟩ := w_44
  subst r_45e
  have ne_q_1_wo : q_1 ≠ wo := fun e9 => by have q9 := ic_q_1.1; rw [e9, zwo] at q9; cases q9
  have ne_q_2_wo : q_2 ≠ wo := fun e9 => by have q9 := in_q_2.1; rw [e9, zwo] at q9; cases q9
  have ne_lb_wo : lb ≠ wo := fun e9 => by have q9 := l0_2.1; rw [e9, zwo] at q9; cases q9
  have ne_lc_wo : lc ≠ wo := fun e9 => by have q9 := l0_3.1; rw [e9, zwo] at q9; cases q9
  have ne_q_11_wo : q_11 ≠ wo := fun e9 => by have q9 := iw_q_11.1; rw [e9, zwo] at q9; cases q9
  have ne_q_22_wo : q_22 ≠ wo := fun e9 => by have q9 := in_q_22.1; rw [e9, zwo] at q9; cases q9
  have ne_q_1_no : q_1 ≠ no := fun e9 => by have q9 := ic_q_1.1; rw [e9, zno] at q9; cases q9
  have ne_q_2_no : q_2 ≠ no := fun e9 => by have q9 := in_q_2.1; rw [e9, zno] at q9; cases q9
  have ne_lb_no : lb ≠ no := fun e9 => by have q9 := l0_2.1; rw [e9, zno] at q9; cases q9
  have ne_lc_no : lc ≠ no := fun e9 => by have q9 := l0_3.1; rw [e9, zno] at q9; cases q9
  have ne_q_11_no : q_11 ≠ no := fun e9 => by have q9 := iw_q_11.1; rw [e9, zno] at q9; cases q9
  have ne_q_22_no : q_22 ≠ no := fun e9 => by have q9 := in_q_22.1; rw [e9, zno] at q9; cases q9
  have fr_wo : frh G wo := frh.fr (frh0 zwo) fs
  have fr_no : frh G no := frh.fr (frh0 zno) fs
  have ic_q_1 := ic_q_1.keep (hfr q_1 (by rw [ic_q_1.1]; decide))
  have in_q_2 := in_q_2.keep (hfr q_2 (by rw [in_q_2.1]; decide))
  have l0_2 := l0_2.keep (hfr lb (by rw [l0_2.1]; decide))
  have l0_3 := l0_3.keep (hfr lc (by rw [l0_3.1]; decide))
  have iw_q_11 := iw_q_11.keep (hfr q_11 (by rw [iw_q_11.1]; decide))
  have in_q_22 := in_q_22.keep (hfr q_22 (by rw [in_q_22.1]; decide))
  have lx := LSx_old lx hfr
  have fs : LFs G u.2 (fun b => b = la ∨ b = q_1) := fs.tr (LFs_of hfr _)
  have hL := hL9
  obtain ⟨L9, hL9e⟩ : ∃ z, z = u.1 := ⟨_, rfl⟩
  obtain ⟨G_46, hG9e⟩ : ∃ z, z = u.2 := ⟨_, rfl⟩
  rw [← hL9e, ← hG9e] at hP hD hL
  rw [← hG9e] at ic_q_1 in_q_2 l0_2 l0_3 iw_q_11 in_q_22 iw_wo in_no lx fs
  clear hL9 hfr hL9e hG9e
  have hP : va_P (dC, dI) cl ([] ++ va_pl L9 (gE cO G_46)) H := hP
  have hD : va_D A ([] ++ va_pl L9 (gE cO G_46)) := hD
  refine wd_v (cx := []) (wr := []) (pl := va_pl L9 (gE cO G_46)) (va_runV (As := [.ref wo]) (rest := []) ⟨hx, hb, hml, hown, hts⟩ (p_Chip_addPin l dC dI cB cI cL cZ cC cO (G := G_46) q_1 wo la (([] : List Nat) ++ [q_11]) t0 _ hL ic_q_1.1 ic_q_1.2.2.2.2.1 lx iw_wo.1 (by rw [iw_wo.2.2.1]; decide) (by simp)) (cwV 1 hts (good_V k_250 k_251 k_252 k_9 k_253) rfl rfl rfl (by decide +kernel) ⟨Nat.le_of_ble_eq_true rfl, Nat.le_of_ble_eq_true rfl⟩) (wd_preV (ci := 6) (r := (R_Chip, F_Chip, 9)) hK hP hD hS hA hF hE [] (by decide) rfl rfl (pq_at (gL_m hL ic_q_1.1 (by decide)) (gE_6 (G := G_46) ic_q_1.1))) rfl rfl hl.1 rfl (lv_room (Nat.le_of_ble_eq_true rfl)) d_Chip_dff_50 ⟨Nat.le_of_ble_eq_true rfl, Nat.le_of_ble_eq_true rfl⟩) hP hD hS hA [] [] rfl rfl (by decide) (by decide) (fun u H locs w_47 hP hD hS => ?_)
  have hP : va_P (dC, dI) cl ([] ++ va_pl u.1 (gE cO u.2)) H := hP
  have hD : va_D A ([] ++ va_pl u.1 (gE cO u.2)) := hD
  obtain ⟨hl9, hL9, hfa, hgc⟩ := w_47
  rw [iw_wo.2.2.1] at hgc
  have in_q_2 := in_q_2.keep (hfa q_2 (by rw [in_q_2.1]; decide) (fun e9 => by have q9 := in_q_2.1; rw [e9, lx.k.1] at q9; cases q9) (fun e9 => by have q9 := in_q_2.1; rw [e9, ic_q_1.1] at q9; cases q9) (fun q9 => by have := q9.1; rw [in_q_2.1] at this; omega))
  have l0_2 := l0_2.keep (hfa lb (by rw [l0_2.1]; decide) (fun e9 => hne12 e9.symm) (fun e9 => by have q9 := l0_2.1; rw [e9, ic_q_1.1] at q9; cases q9) (fun q9 => by have := q9.1; rw [l0_2.1] at this; omega))
  have l0_3 := l0_3.keep (hfa lc (by rw [l0_3.1]; decide) (fun e9 => hne13 e9.symm) (fun e9 => by have q9 := l0_3.1; rw [e9, ic_q_1.1] at q9; cases q9) (fun q9 => by have := q9.1; rw [l0_3.1] at this; omega))
  have iw_q_11 := iw_q_11.keep (hfa q_11 (by rw [iw_q_11.1]; decide) (fun e9 => by have q9 := iw_q_11.1; rw [e9, lx.k.1] at q9; cases q9) (fun e9 => by have q9 := iw_q_11.1; rw [e9, ic_q_1.1] at q9; cases q9) (fun q9 => by have := q9.1; rw [iw_q_11.1] at this; omega))
  have in_q_22 := in_q_22.keep (hfa q_22 (by rw [in_q_22.1]; decide) (fun e9 => by have q9 := in_q_22.1; rw [e9, lx.k.1] at q9; cases q9) (fun e9 => by have q9 := in_q_22.1; rw [e9, ic_q_1.1] at q9; cases q9) (fun q9 => by have := q9.1; rw [in_q_22.1] at this; omega))
  have iw_wo := iw_wo.keep (hfa wo (by rw [iw_wo.1]; decide) (fun e9 => by have q9 := iw_wo.1; rw [e9, lx.k.1] at q9; cases q9) (fun e9 => by have q9 := iw_wo.1; rw [e9, ic_q_1.1] at q9; cases q9) (fun q9 => by have := q9.1; rw [iw_wo.1] at this; omega))
  have in_no := in_no.keep (hfa no (by rw [in_no.1]; decide) (fun e9 => by have q9 := in_no.1; rw [e9, lx.k.1] at q9; cases q9) (fun e9 => by have q9 := in_no.1; rw [e9, ic_q_1.1] at q9; cases q9) (fun q9 => by have := q9.1; rw [in_no.1] at this; omega))
  have fs : LFs G u.2 (fun b => b = la ∨ b = q_1) := fs.tr (LFs_LFa hfa lx.k.1 hl9.k.1 (by rw [hgc.1]; split <;> rfl))
  rw [if_neg (by decide)] at hgc
  have ic_q_1 := ic_q_1.keep hgc
  have lx := hl9
  have hL := hL9
  obtain ⟨L9, hL9e⟩ : ∃ z, z = u.1 := ⟨_, rfl⟩
  obtain ⟨G_49, hG9e⟩ : ∃ z, z = u.2 := ⟨_, rfl⟩
  rw [← hL9e, ← hG9e] at hP hD
  rw [← hG9e] at ic_q_1 in_q_2 l0_2 l0_3 iw_q_11 in_q_22 iw_wo in_no lx fs
  rw [← hL9e, ← hG9e] at hL
  clear hL9 hfa hgc hl9 hL9e hG9e
  have hP : va_P (dC, dI) cl ([] ++ va_pl L9 (gE cO G_49)) H := hP
  have hD : va_D A ([] ++ va_pl L9 (gE cO G_49)) := hD
  refine lv_aload_n hx hb d_Chip_dff_53 rfl (lv_at hl 0 rfl) ?_
  have hxs : ((([] : List Nat) ++ [q_11]) ++ [wo]) = [q_11, wo] := rfl
  rw [hxs] at lx
  have ly := LS0.x l0_2 (gs.rf G_49 lb)
  have hws : ∀ x9 ∈ [q_11, wo], G_49.1 x9 = 2 ∧ G_49.2.1 x9 1 < 3 := by
    intro x9 h9
    simp only [List.mem_cons, List.not_mem_nil, or_false] at h9
    rcases h9 with rfl | rfl
    · exact ⟨iw_q_11.1, by rw [iw_q_11.2.2.1]; decide⟩
    · exact ⟨iw_wo.1, by rw [iw_wo.2.2.1]; decide⟩
  refine wd_v (cx := []) (wr := []) (pl := va_pl L9 (gE cO G_49)) (va_runV (As := []) (rest := []) ⟨hx, hb, hml, hown, hts⟩ (p_Chip_setOffsets l dC dI cB cI cL cZ cC cO (G := G_49) q_1 la lb [q_11, wo] [] t0 _ (by simp) (by simp) hL lx ly ic_q_1.1 ic_q_1.2.2.2.2.1 ic_q_1.2.2.2.2.2.1 hws (fun x9 h9 => absurd h9 List.not_mem_nil)) (cwV 0 hts (good_V k_320 k_321 k_322 k_9 k_323) rfl rfl rfl (by decide +kernel) ⟨Nat.le_of_ble_eq_true rfl, Nat.le_of_ble_eq_true rfl⟩) (wd_preV (ci := 6) (r := (R_Chip, F_Chip, 9)) hK hP hD hS hA hF hE [] (by decide) rfl rfl (pq_at (gL_m hL ic_q_1.1 (by decide)) (gE_6 (G := G_49) ic_q_1.1))) rfl rfl hl.1 rfl (lv_room (Nat.le_of_ble_eq_true rfl)) d_Chip_dff_54 ⟨Nat.le_of_ble_eq_true rfl, Nat.le_of_ble_eq_true rfl⟩) hP hD hS hA [] [] rfl rfl (by decide) (by decide) (fun u H locs w_50 hP hD hS => ?_)
  have hP : va_P (dC, dI) cl ([] ++ va_pl L9 (gE cO u)) H := hP
  have hD : va_D A ([] ++ va_pl L9 (gE cO u)) := hD
  have hu := w_50
  refine lv_aload_n hx hb d_Chip_dff_57 rfl (lv_at hl 0 rfl) ?_
  have hu : u = sfo q_1 [q_11, wo] 2 0 (gN (gN G_49 q_1 8 0) q_1 7 0) := hu
  have ww : ∀ i, i < [q_11, wo].length → isW G_49 ([q_11, wo][i]?.getD 0) ([q_22, no][i]?.getD 0) ([0, 1][i]?.getD 0) ∧ isN G_49 ([q_22, no][i]?.getD 0) ([26990, 7304564][i]?.getD 0) 0 none := fun i h9 => by
    rcases (show i = 0 ∨ i = 1 by simp at h9; omega) with rfl | rfl
    · exact ⟨iw_q_11, in_q_22⟩
    · exact ⟨iw_wo, in_no⟩
  have wf : ∀ i, i < [q_11, wo].length → frh G ([q_11, wo][i]?.getD 0) := fun i h9 => by
    rcases (show i = 0 ∨ i = 1 by simp at h9; omega) with rfl | rfl
    · exact fr_q_11
    · exact fr_wo
  have wd : ∀ i j, i < j → j < [q_11, wo].length → [q_11, wo][i]?.getD 0 ≠ [q_11, wo][j]?.getD 0 := fun i j h8 h9 => by
    rcases (show (i = 0 ∧ j = 1) by simp at h9; omega) with ⟨rfl, rfl⟩
    · exact ne_q_11_wo
  have g9 := gt_fin (G0 := G) (ns := [q_22, no]) (ks := [0, 1]) (os := [0, 1]) (hs := [26990, 7304564]) (ip := 1) (nb := 2) hu wf wd ic_q_1 in_q_2 lx l0_2 l0_3 ww hL fs (Or.inr rfl) (by simp [swd, sinb, iw_q_11.2.2.2.1, iw_q_11.2.2.1, iw_wo.2.2.2.1, iw_wo.2.2.1]) (by simp [swd, sinb, iw_q_11.2.2.2.1, iw_q_11.2.2.1, iw_wo.2.2.2.1, iw_wo.2.2.1]) (fun i h9 => by rcases (show i = 0 ∨ i = 1 by simp at h9; omega) with rfl | rfl <;> simp [swd, sinb, iw_q_11.2.2.2.1, iw_q_11.2.2.1, iw_wo.2.2.2.1, iw_wo.2.2.1])
  refine W.widen (k := 40) (n := 3000) (by omega) (by omega) ?_
  exact wr_q (r := some q_1) hx hb hr ⟨_, rfl⟩ hlocks (L9, u) ⟨q_1, q_2, la, lb, lc, q_11, wo, q_22, no, rfl, g9.1, g9.2.1, ⟨fz_q_1, fr_l1, fr_l2, fr_l3, fr_q_2, fr_q_11, fr_wo, fr_q_22, fr_no⟩, ⟨hne12, hne13, hne23⟩, ne_q_11_wo, ⟨ne_q_2_q_22, ne_q_2_no, ne_q_22_no⟩, g9.2.2⟩ hK hP hD hS d_Chip_dff_58
