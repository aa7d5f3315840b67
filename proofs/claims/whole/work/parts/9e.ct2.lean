theorem pi_ls0 {t0 : Nat} {G : PG} {L : List Nat} {q : Nat} (_ : q ∉ L) (_ : gL L G) : LS0 t0 (gR (gN (g0 G q 7) q 2 0) q 0 (some t0)) q := by
  refine ⟨?_, ?_, ?_⟩ <;> simp [g0, up2, va_up]
theorem d_Parser_init_0 : decode b_Parser_init 0 = .ok (.aload_n 0, 1) := by decide +kernel
theorem d_Parser_init_1 : decode b_Parser_init 1 = .ok (.invokespecial 1, 3) := by decide +kernel
theorem d_Parser_init_4 : decode b_Parser_init 4 = .ok (.aload_n 0, 1) := by decide +kernel
theorem d_Parser_init_5 : decode b_Parser_init 5 = .ok (.new 7, 3) := by decide +kernel
theorem d_Parser_init_8 : decode b_Parser_init 8 = .ok (.dup, 1) := by decide +kernel
theorem d_Parser_init_9 : decode b_Parser_init 9 = .ok (.invokespecial 9, 3) := by decide +kernel
theorem d_Parser_init_12 : decode b_Parser_init 12 = .ok (.putfield 10, 3) := by decide +kernel
theorem d_Parser_init_15 : decode b_Parser_init 15 = .ok (.aload_n 0, 1) := by decide +kernel
theorem d_Parser_init_16 : decode b_Parser_init 16 = .ok (.iconst 0, 1) := by decide +kernel
theorem d_Parser_init_17 : decode b_Parser_init 17 = .ok (.putfield 16, 3) := by decide +kernel
theorem d_Parser_init_20 : decode b_Parser_init 20 = .ok (.aload_n 0, 1) := by decide +kernel
theorem d_Parser_init_21 : decode b_Parser_init 21 = .ok (.aload_n 1, 1) := by decide +kernel
theorem d_Parser_init_22 : decode b_Parser_init 22 = .ok (.putfield 20, 3) := by decide +kernel
theorem d_Parser_init_25 : decode b_Parser_init 25 = .ok (.aload_n 0, 1) := by decide +kernel
theorem d_Parser_init_26 : decode b_Parser_init 26 = .ok (.aload_n 2, 1) := by decide +kernel
theorem d_Parser_init_27 : decode b_Parser_init 27 = .ok (.putfield 24, 3) := by decide +kernel
theorem d_Parser_init_30 : decode b_Parser_init 30 = .ok (.return_, 1) := by decide +kernel
set_option maxHeartbeats 4000000 in
set_option maxRecDepth 100000 in
/-- Parser -/
theorem p_Parser_init (l : Launch) (dC : Nat → ClassId) (dI : Nat → Nat → Nat) (cB cI cL cZ cC cO : ClassId) (qp qt qf : Nat) {v0 v1 v2 v3 : Value} {L : List Nat} {G : PG} (t0 sz : Nat) (hL : gL L G) : Met l y_Parser_init w_Parser_init ({ frames := 4, cells := 1, slots := 3, locals := 140 }) (va_Pc [.ref qp, .ref qt, .ref qf] (wB2 (dC, dI) cl [(cB, .byte), (cI, .int), (cL, .long), (cZ, .boolean), (cC, .char), (cO, .object "java/lang/Object")] sz t0 ([(qp, .inr (3, [v0, v1, v2, v3]))] ++ va_pl L (gE cO G)))) (va_Qv (fun (u : Nat × List Nat × PG) => LS0 t0 u.2.2 u.1 ∧ gL u.2.1 u.2.2 ∧ G.1 u.1 = 0 ∧ ∀ b, G.1 b ≠ 0 → gs G u.2.2 b) (fun u t => wA (dC, dI) cl [(cB, .byte), (cI, .int), (cL, .long), (cZ, .boolean), (cC, .char), (cO, .object "java/lang/Object")] (va_A ([(qp, .inr (3, [v0, v1, v2, v3]))] ++ va_pl L (gE cO G)) sz) ([(qp, .inr (3, [.ref u.1, .ref qt, .ref qf, .int (nI 0)]))] ++ va_pl u.2.1 (gE cO u.2.2)) t) (va_A ([(qp, .inr (3, [v0, v1, v2, v3]))] ++ va_pl L (gE cO G)) sz)) 1 3 (va_A ([(qp, .inr (3, [v0, v1, v2, v3]))] ++ va_pl L (gE cO G)) sz) := by
  refine Met.ofW (cc := b_Parser_init) (maxL := 3) (ret := none) (by decide) rfl ?_
  intro p e s m args below meth c s₁ B hml hv
  obtain ⟨rfl, ⟨hsz, hP, hK, hD0, hF⟩, hE⟩ := hv
  have hx := B.exec
  have hb := B.bytes
  have hr := B.returns
  have hts := atoms_spec (ws := w_Parser_init) B.pre
  have hts : ∀ w ∈ tb, w.before _ s = true := fun w h => hts w (List.mem_cons_of_mem _ h)
  have hown : s.vm.findClass R_Parser = some m.cls := findClass_of_methodNamed B.named
  have hlocks := B.notSynchronized
  have hin : meth.name = "<init>" := (name_of_methodNamed B.named B.method).1
  subst hsz
  have hD := hD0.self (sz := s.heap.size)
  generalize hAe : va_A ([(qp, .inr (3, [v0, v1, v2, v3]))] ++ va_pl L (gE cO G)) s.heap.size = A at hD hF hE ⊢
  have hA : ∀ q : Nat, s.heap.size ≤ q → A q := fun q h => by rw [← hAe]; exact Or.inr h
  have hS : va_S A s.heap s.heap [] := va_S.rf
  have hP : va_P (dC, dI) cl ([(qp, .inr (3, [v0, v1, v2, v3]))] ++ va_pl L (gE cO G)) s.heap := hP
  have hl := lv_entry ([.ref qp, .ref qt, .ref qf]) (n := 3) (Nat.le_of_ble_eq_true rfl)
  rw [lg_entry_eq]
  generalize (lg_sl ([.ref qp, .ref qt, .ref qf]) ++ List.replicate (3 - (lg_sl ([.ref qp, .ref qt, .ref qf])).length) Slot.unset).toArray = ls at hl ⊢
  have hl : lv_has ls 3 [(0, .ref qp), (1, .ref qt), (2, .ref qf)] := hl
  refine lv_aload_n hx hb d_Parser_init_0 rfl (lv_at hl 0 rfl) ?_
  refine W.objInit hx hb hown (hts _ k_88) (hts _ k_29) (hts _ k_30) rfl (by rw [hml]; exact hl.1) rfl d_Parser_init_1 (Nat.le_of_ble_eq_true rfl) (Nat.le_of_ble_eq_true rfl) ?_
  refine W.eq (g2 := F0 m 4 ls []) rfl ?_
  refine lv_aload_n hx hb d_Parser_init_4 rfl (lv_at hl 0 rfl) ?_
  refine pq_new (ci := 4) (fs := [.null, .int (nI 0), .int (nI 0)]) (C := R_List) (T := F_List) (N := 3) (fn := fun q9 => gE cO (g0 G q9 7)) hx hb hts i_List t_List t_List_ok hown (hts _ k_89) (hts _ k_90) (hts _ k_7) hK hP hD hS hA rfl (fun j hj => by rcases (show j = 0 ∨ j = 1 ∨ j = 2 by omega) with rfl | rfl | rfl <;> rfl) (Nat.le_of_ble_eq_true rfl) (Nat.le_of_ble_eq_true rfl) (fun q9 => nE_7 (G := G) q9) d_Parser_init_5 (fun q_1 H nq_1 hP hD hS => ?_)
  have hL0 := hL
  have hz9 : G.1 q_1 = 0 := g0_n hL nq_1
  replace hL := gL_new (a := q_1) (n := 7) hL
  have hP : va_P (dC, dI) cl ([(qp, .inr (3, [v0, v1, v2, v3]))] ++ va_pl (L ++ [q_1]) (gE cO (g0 G q_1 7))) H := hP
  have hD : va_D A ([(qp, .inr (3, [v0, v1, v2, v3]))] ++ va_pl (L ++ [q_1]) (gE cO (g0 G q_1 7))) := hD
  refine lv_dup hx hb d_Parser_init_8 rfl ?_
  refine wd_v (cx := []) (wr := [(qp, .inr (3, [v0, v1, v2, v3]))]) (pl := va_pl (L ++ [q_1]) (gE cO (g0 G q_1 7))) (va_runI (As := []) (rest := [.ref q_1, .ref qp]) ⟨hx, hb, hml, hown, hts⟩ (p_List_init l dC dI cB cI cL cZ cC cO (G := g0 G q_1 7) q_1 t0 _ hL (g0_q G q_1 7)) (cwI 0 hts (good_c k_93) rfl rfl rfl (hts _ k_7) (hts _ k_91) (hts _ k_92) rfl (by decide +kernel) ⟨Nat.le_of_ble_eq_true rfl, Nat.le_of_ble_eq_true rfl⟩) (wd_preS hK hP hD hS hA hF hE [] (by decide) rfl) rfl rfl hl.1 rfl (lv_room (Nat.le_of_ble_eq_true rfl)) d_Parser_init_9 ⟨Nat.le_of_ble_eq_true rfl, Nat.le_of_ble_eq_true rfl⟩) hP hD hS hA [] [0] rfl rfl (by decide) (by decide) (fun _ H locs w_2 hP hD hS => ?_)
  have hP : va_P (dC, dI) cl ([(qp, .inr (3, [v0, v1, v2, v3]))] ++ va_pl (L ++ [q_1]) (gE cO (gR (gN (g0 G q_1 7) q_1 2 0) q_1 0 (some t0)))) H := hP
  have hD : va_D A ([(qp, .inr (3, [v0, v1, v2, v3]))] ++ va_pl (L ++ [q_1]) (gE cO (gR (gN (g0 G q_1 7) q_1 2 0) q_1 0 (some t0)))) := hD
  refine va_putF (D := (dC, dI)) (ci := 3) (v := .ref q_1) (ty := .object "java/util/ArrayList") (C := R_Parser) (T := F_Parser) (N := 4) hx hb hts i_Parser t_Parser t_Parser_ok n_Parser hown hK hP hD hS 0 rfl rfl 0 (by decide) (hts _ k_115) (fun _ h9 => h9) rfl hin rfl (by decide +kernel) rfl rfl (Nat.le_of_ble_eq_true rfl) d_Parser_init_12 (fun H locs hP hD hS => ?_)
  have hP : va_P (dC, dI) cl ([(qp, .inr (3, [.ref q_1, v1, v2, v3]))] ++ va_pl (L ++ [q_1]) (gE cO (gR (gN (g0 G q_1 7) q_1 2 0) q_1 0 (some t0)))) H := hP
  have hD : va_D A ([(qp, .inr (3, [.ref q_1, v1, v2, v3]))] ++ va_pl (L ++ [q_1]) (gE cO (gR (gN (g0 G q_1 7) q_1 2 0) q_1 0 (some t0)))) := hD
  refine lv_aload_n hx hb d_Parser_init_15 rfl (lv_at hl 0 rfl) ?_
  refine lv_iconst (v := nI 0) hx hb d_Parser_init_16 (by decide) ?_
  refine va_put (D := (dC, dI)) (ci := 3) (v := .int (nI 0)) (ty := .int) (C := R_Parser) (T := F_Parser) (N := 4) hx hb hts i_Parser t_Parser t_Parser_ok n_Parser hown hK hP hD hS 0 rfl rfl 3 (by decide) (hts _ k_119) (fun _ h9 => h9) rfl (by decide +kernel) rfl rfl (Nat.le_of_ble_eq_true rfl) d_Parser_init_17 (fun H locs hP hD hS => ?_)
  have hP : va_P (dC, dI) cl ([(qp, .inr (3, [.ref q_1, v1, v2, .int (nI 0)]))] ++ va_pl (L ++ [q_1]) (gE cO (gR (gN (g0 G q_1 7) q_1 2 0) q_1 0 (some t0)))) H := hP
  have hD : va_D A ([(qp, .inr (3, [.ref q_1, v1, v2, .int (nI 0)]))] ++ va_pl (L ++ [q_1]) (gE cO (gR (gN (g0 G q_1 7) q_1 2 0) q_1 0 (some t0)))) := hD
  refine lv_aload_n hx hb d_Parser_init_20 rfl (lv_at hl 0 rfl) ?_
  refine lv_aload_n hx hb d_Parser_init_21 rfl (lv_at hl 1 rfl) ?_
  refine va_putF (D := (dC, dI)) (ci := 3) (v := .ref qt) (ty := .object "ChipDesk$Text") (C := R_Parser) (T := F_Parser) (N := 4) hx hb hts i_Parser t_Parser t_Parser_ok n_Parser hown hK hP hD hS 0 rfl rfl 1 (by decide) (hts _ k_117) (fun _ h9 => h9) rfl hin rfl (by decide +kernel) rfl rfl (Nat.le_of_ble_eq_true rfl) d_Parser_init_22 (fun H locs hP hD hS => ?_)
  have hP : va_P (dC, dI) cl ([(qp, .inr (3, [.ref q_1, .ref qt, v2, .int (nI 0)]))] ++ va_pl (L ++ [q_1]) (gE cO (gR (gN (g0 G q_1 7) q_1 2 0) q_1 0 (some t0)))) H := hP
  have hD : va_D A ([(qp, .inr (3, [.ref q_1, .ref qt, v2, .int (nI 0)]))] ++ va_pl (L ++ [q_1]) (gE cO (gR (gN (g0 G q_1 7) q_1 2 0) q_1 0 (some t0)))) := hD
  refine lv_aload_n hx hb d_Parser_init_25 rfl (lv_at hl 0 rfl) ?_
  refine lv_aload_n hx hb d_Parser_init_26 rfl (lv_at hl 2 rfl) ?_
  refine va_putF (D := (dC, dI)) (ci := 3) (v := .ref qf) (ty := .object "ChipDesk$Fault") (C := R_Parser) (T := F_Parser) (N := 4) hx hb hts i_Parser t_Parser t_Parser_ok n_Parser hown hK hP hD hS 0 rfl rfl 2 (by decide) (hts _ k_118) (fun _ h9 => h9) rfl hin rfl (by decide +kernel) rfl rfl (Nat.le_of_ble_eq_true rfl) d_Parser_init_27 (fun H locs hP hD hS => ?_)
  have hP : va_P (dC, dI) cl ([(qp, .inr (3, [.ref q_1, .ref qt, .ref qf, .int (nI 0)]))] ++ va_pl (L ++ [q_1]) (gE cO (gR (gN (g0 G q_1 7) q_1 2 0) q_1 0 (some t0)))) H := hP
  have hD : va_D A ([(qp, .inr (3, [.ref q_1, .ref qt, .ref qf, .int (nI 0)]))] ++ va_pl (L ++ [q_1]) (gE cO (gR (gN (g0 G q_1 7) q_1 2 0) q_1 0 (some t0)))) := hD
  exact wr_v hx hb hr hlocks (q_1, L ++ [q_1], gR (gN (g0 G q_1 7) q_1 2 0) q_1 0 (some t0)) ⟨pi_ls0 nq_1 hL0, gL_new hL0, hz9, fun b h9 => ((gs_0 (fun e9 => h9 (by rw [e9]; exact hz9))).tr (gs_N (fun e9 => h9 (by rw [e9]; exact hz9)))).tr (gs_R (fun e9 => h9 (by rw [e9]; exact hz9)))⟩ hK hP hD hS d_Parser_init_30
theorem d_Checker_init_0 : decode b_Checker_init 0 = .ok (.aload_n 0, 1) := by decide +kernel
theorem d_Checker_init_1 : decode b_Checker_init 1 = .ok (.invokespecial 1, 3) := by decide +kernel
theorem d_Checker_init_4 : decode b_Checker_init 4 = .ok (.aload_n 0, 1) := by decide +kernel
theorem d_Checker_init_5 : decode b_Checker_init 5 = .ok (.invokestatic 7, 3) := by decide +kernel
theorem d_Checker_init_8 : decode b_Checker_init 8 = .ok (.putfield 13, 3) := by decide +kernel
theorem d_Checker_init_11 : decode b_Checker_init 11 = .ok (.aload_n 0, 1) := by decide +kernel
theorem d_Checker_init_12 : decode b_Checker_init 12 = .ok (.invokestatic 18, 3) := by decide +kernel
theorem d_Checker_init_15 : decode b_Checker_init 15 = .ok (.putfield 21, 3) := by decide +kernel
theorem d_Checker_init_18 : decode b_Checker_init 18 = .ok (.aload_n 0, 1) := by decide +kernel
theorem d_Checker_init_19 : decode b_Checker_init 19 = .ok (.bipush 8, 2) := by decide +kernel
theorem d_Checker_init_21 : decode b_Checker_init 21 = .ok (.newarray .int, 2) := by decide +kernel
theorem d_Checker_init_23 : decode b_Checker_init 23 = .ok (.putfield 25, 3) := by decide +kernel
theorem d_Checker_init_26 : decode b_Checker_init 26 = .ok (.aload_n 0, 1) := by decide +kernel
theorem d_Checker_init_27 : decode b_Checker_init 27 = .ok (.aload_n 1, 1) := by decide +kernel
theorem d_Checker_init_28 : decode b_Checker_init 28 = .ok (.putfield 29, 3) := by decide +kernel
theorem d_Checker_init_31 : decode b_Checker_init 31 = .ok (.aload_n 0, 1) := by decide +kernel
theorem d_Checker_init_32 : decode b_Checker_init 32 = .ok (.aload_n 2, 1) := by decide +kernel
theorem d_Checker_init_33 : decode b_Checker_init 33 = .ok (.putfield 33, 3) := by decide +kernel
theorem d_Checker_init_36 : decode b_Checker_init 36 = .ok (.return_, 1) := by decide +kernel
set_option maxHeartbeats 4000000 in
set_option maxRecDepth 100000 in
/-- Checker -/
theorem p_Checker_init (l : Launch) (dC : Nat → ClassId) (dI : Nat → Nat → Nat) (cB cI cL cZ cC cO : ClassId) (qx qc qf : Nat) {v0 v1 v2 v3 v4 : Value} {L : List Nat} {G : PG} (t0 sz : Nat) (hL : gL L G) : Met l y_Checker_init w_Checker_init ({ frames := 10, cells := 81, slots := 6008, locals := 620 }) (va_Pc [.ref qx, .ref qc, .ref qf] (wB2 (dC, dI) cl [(cB, .byte), (cI, .int), (cL, .long), (cZ, .boolean), (cC, .char), (cO, .object "java/lang/Object")] sz t0 ([(qx, .inr (5, [v0, v1, v2, v3, v4]))] ++ va_pl L (gE cO G)))) (va_Qv (fun (u : Nat × Nat × Nat × List Nat × PG × List Nat × PG) => (∃ q nm la lb lc w0 w1 w2 n0 n1 n2, some u.1 = some q ∧ GPx t0 u.2.2.2.2.1 q nm la lb lc 1 2 3 1315008100 [w0, w1, w2] [n0, n1, n2] [0, 0, 1] [0, 1, 2] [97, 98, 7304564] ∧ gL u.2.2.2.1 u.2.2.2.2.1 ∧ (G.1 q = 0 ∧ G.1 la = 0 ∧ G.1 lb = 0 ∧ G.1 lc = 0 ∧ frh G nm ∧ frh G w0 ∧ frh G w1 ∧ frh G w2 ∧ frh G n0 ∧ frh G n1 ∧ frh G n2) ∧ (la ≠ lb ∧ la ≠ lc ∧ lb ≠ lc) ∧ (w0 ≠ w1 ∧ w0 ≠ w2 ∧ w1 ≠ w2) ∧ (nm ≠ n0 ∧ nm ≠ n1 ∧ nm ≠ n2 ∧ n0 ≠ n1 ∧ n0 ≠ n2 ∧ n1 ≠ n2) ∧ LFs G u.2.2.2.2.1 (fun b => b = la ∨ b = q)) ∧ (∃ q nm la lb lc w0 w1 n0 n1, some u.2.1 = some q ∧ GPx t0 u.2.2.2.2.2.2 q nm la lb lc 2 1 2 4482662 [w0, w1] [n0, n1] [0, 1] [0, 1] [26990, 7304564] ∧ gL u.2.2.2.2.2.1 u.2.2.2.2.2.2 ∧ (u.2.2.2.2.1.1 q = 0 ∧ u.2.2.2.2.1.1 la = 0 ∧ u.2.2.2.2.1.1 lb = 0 ∧ u.2.2.2.2.1.1 lc = 0 ∧ frh u.2.2.2.2.1 nm ∧ frh u.2.2.2.2.1 w0 ∧ frh u.2.2.2.2.1 w1 ∧ frh u.2.2.2.2.1 n0 ∧ frh u.2.2.2.2.1 n1) ∧ (la ≠ lb ∧ la ≠ lc ∧ lb ≠ lc) ∧ (w0 ≠ w1) ∧ (nm ≠ n0 ∧ nm ≠ n1 ∧ n0 ≠ n1) ∧ LFs u.2.2.2.2.1 u.2.2.2.2.2.2 (fun b => b = la ∨ b = q)) ∧ gL u.2.2.2.2.2.1 u.2.2.2.2.2.2) (fun u t => wA (dC, dI) cl [(cB, .byte), (cI, .int), (cL, .long), (cZ, .boolean), (cC, .char), (cO, .object "java/lang/Object")] (va_A ([(qx, .inr (5, [v0, v1, v2, v3, v4]))] ++ va_pl L (gE cO G)) sz) ([(qx, .inr (5, [.ref qc, .ref qf, .ref u.1, .ref u.2.1, .ref u.2.2.1])), (u.2.2.1, .inl (cI, 8, .inl (fun _ => 0)))] ++ va_pl u.2.2.2.2.2.1 (gE cO u.2.2.2.2.2.2)) t) (va_A ([(qx, .inr (5, [v0, v1, v2, v3, v4]))] ++ va_pl L (gE cO G)) sz)) 81 6008 (va_A ([(qx, .inr (5, [v0, v1, v2, v3, v4]))] ++ va_pl L (gE cO G)) sz) := by
  refine Met.ofW (cc := b_Checker_init) (maxL := 3) (ret := none) (by decide) rfl ?_
  intro p e s m args below meth c s₁ B hml hv
  obtain ⟨rfl, ⟨hsz, hP, hK, hD0, hF⟩, hE⟩ := hv
  have hx := B.exec
  have hb := B.bytes
  have hr := B.returns
  have hts := atoms_spec (ws := w_Checker_init) B.pre
  have hts : ∀ w ∈ tb, w.before _ s = true := fun w h => hts w (List.mem_cons_of_mem _ h)
  have hown : s.vm.findClass R_Checker = some m.cls := findClass_of_methodNamed B.named
  have hlocks := B.notSynchronized
  have hin : meth.name = "<init>" := (name_of_methodNamed B.named B.method).1
  subst hsz
  have hD := hD0.self (sz := s.heap.size)
  generalize hAe : va_A ([(qx, .inr (5, [v0, v1, v2, v3, v4]))] ++ va_pl L (gE cO G)) s.heap.size = A at hD hF hE ⊢
  have hA : ∀ q : Nat, s.heap.size ≤ q → A q := fun q h => by rw [← hAe]; exact Or.inr h
  have hS : va_S A s.heap s.heap [] := va_S.rf
  have hP : va_P (dC, dI) cl ([(qx, .inr (5, [v0, v1, v2, v3, v4]))] ++ va_pl L (gE cO G)) s.heap := hP
  have hl := lv_entry ([.ref qx, .ref qc, .ref qf]) (n := 3) (Nat.le_of_ble_eq_true rfl)
  rw [lg_entry_eq]
  generalize (lg_sl ([.ref qx, .ref qc, .ref qf]) ++ List.replicate (3 - (lg_sl ([.ref qx, .ref qc, .ref qf])).length) Slot.unset).toArray = ls at hl ⊢
  have hl : lv_has ls 3 [(0, .ref qx), (1, .ref qc), (2, .ref qf)] := hl
  refine lv_aload_n hx hb d_Checker_init_0 rfl (lv_at hl 0 rfl) ?_
  refine W.objInit hx hb hown (hts _ k_134) (hts _ k_29) (hts _ k_30) rfl (by rw [hml]; exact hl.1) rfl d_Checker_init_1 (Nat.le_of_ble_eq_true rfl) (Nat.le_of_ble_eq_true rfl) ?_
  refine W.eq (g2 := F0 m 4 ls []) rfl ?_
  refine lv_aload_n hx hb d_Checker_init_4 rfl (lv_at hl 0 rfl) ?_
  refine wd_q (cx := []) (wr := [(qx, .inr (5, [v0, v1, v2, v3, v4]))]) (pl := va_pl L (gE cO G)) (va_runS (As := []) (rest := [.ref qx]) ⟨hx, hb, hml, hown, hts⟩ (p_Chip_nand l dC dI cB cI cL cZ cC cO (G := G) t0 _ hL) (va_cwS 0 hts (good_S k_135 k_136 k_9 k_137) rfl rfl rfl (by decide +kernel) ⟨Nat.le_of_ble_eq_true rfl, Nat.le_of_ble_eq_true rfl⟩) (wd_preS hK hP hD hS hA hF hE [] (by decide) rfl) rfl rfl hl.1 rfl (lv_room (Nat.le_of_ble_eq_true rfl)) d_Checker_init_5 ⟨Nat.le_of_ble_eq_true rfl, Nat.le_of_ble_eq_true rfl⟩) hP hD hS hA [] [0] rfl rfl (by decide) (by decide) (fun r_2 u1 H locs w_1 hP hD hS => ?_)
  have hP : va_P (dC, dI) cl ([(qx, .inr (5, [v0, v1, v2, v3, v4]))] ++ va_pl u1.1 (gE cO u1.2)) H := hP
  have hD : va_D A ([(qx, .inr (5, [v0, v1, v2, v3, v4]))] ++ va_pl u1.1 (gE cO u1.2)) := hD
  have h_nand := w_1
  obtain ⟨c_nand, q9⟩ : ∃ z, r_2 = some z := by obtain ⟨q8, _, _, _, _, _, _, _, _, _, _, q7, _⟩ := h_nand; exact ⟨q8, q7⟩
  rw [q9] at h_nand ⊢
  have hL : gL u1.1 u1.2 := by obtain ⟨_, _, _, _, _, _, _, _, _, _, _, _, _, q7, _⟩ := h_nand; exact q7
  refine va_putF (D := (dC, dI)) (ci := 5) (v := .ref c_nand) (ty := .object "ChipDesk$Chip") (C := R_Checker) (T := F_Checker) (N := 5) hx hb hts i_Checker t_Checker t_Checker_ok n_Checker hown hK hP hD hS 0 rfl rfl 2 (by decide) (hts _ k_353) (fun _ h9 => h9) rfl hin rfl (by decide +kernel) rfl rfl (Nat.le_of_ble_eq_true rfl) d_Checker_init_8 (fun H locs hP hD hS => ?_)
  have hP : va_P (dC, dI) cl ([(qx, .inr (5, [v0, v1, .ref c_nand, v3, v4]))] ++ va_pl u1.1 (gE cO u1.2)) H := hP
  have hD : va_D A ([(qx, .inr (5, [v0, v1, .ref c_nand, v3, v4]))] ++ va_pl u1.1 (gE cO u1.2)) := hD
  refine lv_aload_n hx hb d_Checker_init_11 rfl (lv_at hl 0 rfl) ?_
  refine wd_q (cx := []) (wr := [(qx, .inr (5, [v0, v1, .ref c_nand, v3, v4]))]) (pl := va_pl u1.1 (gE cO u1.2)) (va_runS (As := []) (rest := [.ref qx]) ⟨hx, hb, hml, hown, hts⟩ (p_Chip_dff l dC dI cB cI cL cZ cC cO (G := u1.2) t0 _ hL) (va_cwS 0 hts (good_S k_346 k_347 k_9 k_348) rfl rfl rfl (by decide +kernel) ⟨Nat.le_of_ble_eq_true rfl, Nat.le_of_ble_eq_true rfl⟩) (wd_preS hK hP hD hS hA hF hE [] (by decide) rfl) rfl rfl hl.1 rfl (lv_room (Nat.le_of_ble_eq_true rfl)) d_Checker_init_12 ⟨Nat.le_of_ble_eq_true rfl, Nat.le_of_ble_eq_true rfl⟩) hP hD hS hA [] [0] rfl rfl (by decide) (by decide) (fun r_4 u2 H locs w_3 hP hD hS => ?_)
  have hP : va_P (dC, dI) cl ([(qx, .inr (5, [v0, v1, .ref c_nand, v3, v4]))] ++ va_pl u2.1 (gE cO u2.2)) H := hP
  have hD : va_D A ([(qx, .inr (5, [v0, v1, .ref c_nand, v3, v4]))] ++ va_pl u2.1 (gE cO u2.2)) := hD
  have h_dff := w_3
  obtain ⟨c_dff, q9⟩ : ∃ z, r_4 = some z := by obtain ⟨q8, _, _, _, _, _, _, _, _, q7, _⟩ := h_dff; exact ⟨q8, q7⟩
  rw [q9] at h_dff ⊢
  have hL : gL u2.1 u2.2 := by obtain ⟨_, _, _, _, _, _, _, _, _, _, _, q7, _⟩ := h_dff; exact q7
  refine va_putF (D := (dC, dI)) (ci := 5) (v := .ref c_dff) (ty := .object "ChipDesk$Chip") (C := R_Checker) (T := F_Checker) (N := 5) hx hb hts i_Checker t_Checker t_Checker_ok n_Checker hown hK hP hD hS 0 rfl rfl 3 (by decide) (hts _ k_354) (fun _ h9 => h9) rfl hin rfl (by decide +kernel) rfl rfl (Nat.le_of_ble_eq_true rfl) d_Checker_init_15 (fun H locs hP hD hS => ?_)
  have hP : va_P (dC, dI) cl ([(qx, .inr (5, [v0, v1, .ref c_nand, .ref c_dff, v4]))] ++ va_pl u2.1 (gE cO u2.2)) H := hP
  have hD : va_D A ([(qx, .inr (5, [v0, v1, .ref c_nand, .ref c_dff, v4]))] ++ va_pl u2.1 (gE cO u2.2)) := hD
  refine lv_aload_n hx hb d_Checker_init_18 rfl (lv_at hl 0 rfl) ?_
  refine lv_bipush (v := nI 8) hx hb d_Checker_init_19 (by decide) ?_
  refine va_newa (atype := .int) (ty := .int) (N' := 8) (a0 := (8, .inl (fun _ => 0))) hx hb (hts _ k_66) rfl hK hP hD hS hA (fun _ => rfl) (by decide) (by decide) (by decide) (Nat.le_of_ble_eq_true rfl) (Nat.le_of_ble_eq_true rfl) d_Checker_init_21 (fun q_5 cA9 H hK9 hP hD hS => ?_)
  have hc9 : cI = cA9 := (ty_eq hK9 (k := 1) rfl (fun _ h9 => h9)).symm
  clear hK9
  subst hc9
  have hP := va_P.swap hP
  have hD := va_D.swap hD
  have hP : va_P (dC, dI) cl ([(qx, .inr (5, [v0, v1, .ref c_nand, .ref c_dff, v4])), (q_5, .inl (cI, 8, .inl (fun _ => 0)))] ++ va_pl u2.1 (gE cO u2.2)) H := hP
  have hD : va_D A ([(qx, .inr (5, [v0, v1, .ref c_nand, .ref c_dff, v4])), (q_5, .inl (cI, 8, .inl (fun _ => 0)))] ++ va_pl u2.1 (gE cO u2.2)) := hD
  refine va_putF (D := (dC, dI)) (ci := 5) (v := .ref q_5) (ty := .array (.int)) (C := R_Checker) (T := F_Checker) (N := 5) hx hb hts i_Checker t_Checker t_Checker_ok n_Checker hown hK hP hD hS 0 rfl rfl 4 (by decide) (hts _ k_355) (fun _ h9 => h9) rfl hin rfl (by decide +kernel) rfl rfl (Nat.le_of_ble_eq_true rfl) d_Checker_init_23 (fun H locs hP hD hS => ?_)
  have hP : va_P (dC, dI) cl ([(qx, .inr (5, [v0, v1, .ref c_nand, .ref c_dff, .ref q_5])), (q_5, .inl (cI, 8, .inl (fun _ => 0)))] ++ va_pl u2.1 (gE cO u2.2)) H := hP
  have hD : va_D A ([(qx, .inr (5, [v0, v1, .ref c_nand, .ref c_dff, .ref q_5])), (q_5, .inl (cI, 8, .inl (fun _ => 0)))] ++ va_pl u2.1 (gE cO u2.2)) := hD
  refine lv_aload_n hx hb d_Checker_init_26 rfl (lv_at hl 0 rfl) ?_
  refine lv_aload_n hx hb d_Checker_init_27 rfl (lv_at hl 1 rfl) ?_
  refine va_putF (D := (dC, dI)) (ci := 5) (v := .ref qc) (ty := .object "java/util/ArrayList") (C := R_Checker) (T := F_Checker) (N := 5) hx hb hts i_Checker t_Checker t_Checker_ok n_Checker hown hK hP hD hS 0 rfl rfl 0 (by decide) (hts _ k_351) (fun _ h9 => h9) rfl hin rfl (by decide +kernel) rfl rfl (Nat.le_of_ble_eq_true rfl) d_Checker_init_28 (fun H locs hP hD hS => ?_)
  have hP : va_P (dC, dI) cl ([(qx, .inr (5, [.ref qc, v1, .ref c_nand, .ref c_dff, .ref q_5])), (q_5, .inl (cI, 8, .inl (fun _ => 0)))] ++ va_pl u2.1 (gE cO u2.2)) H := hP
  have hD : va_D A ([(qx, .inr (5, [.ref qc, v1, .ref c_nand, .ref c_dff, .ref q_5])), (q_5, .inl (cI, 8, .inl (fun _ => 0)))] ++ va_pl u2.1 (gE cO u2.2)) := hD
  refine lv_aload_n hx hb d_Checker_init_31 rfl (lv_at hl 0 rfl) ?_
  refine lv_aload_n hx hb d_Checker_init_32 rfl (lv_at hl 2 rfl) ?_
  refine va_putF (D := (dC, dI)) (ci := 5) (v := .ref qf) (ty := .object "ChipDesk$Fault") (C := R_Checker) (T := F_Checker) (N := 5) hx hb hts i_Checker t_Checker t_Checker_ok n_Checker hown hK hP hD hS 0 rfl rfl 1 (by decide) (hts _ k_352) (fun _ h9 => h9) rfl hin rfl (by decide +kernel) rfl rfl (Nat.le_of_ble_eq_true rfl) d_Checker_init_33 (fun H locs hP hD hS => ?_)
  have hP : va_P (dC, dI) cl ([(qx, .inr (5, [.ref qc, .ref qf, .ref c_nand, .ref c_dff, .ref q_5])), (q_5, .inl (cI, 8, .inl (fun _ => 0)))] ++ va_pl u2.1 (gE cO u2.2)) H := hP
  have hD : va_D A ([(qx, .inr (5, [.ref qc, .ref qf, .ref c_nand, .ref c_dff, .ref q_5])), (q_5, .inl (cI, 8, .inl (fun _ => 0)))] ++ va_pl u2.1 (gE cO u2.2)) := hD
  refine W.widen (k := 81) (n := 6008) (by omega) (by omega) ?_
  exact wr_v hx hb hr hlocks (c_nand, c_dff, q_5, u1.1, u1.2, u2.1, u2.2) ⟨h_nand, h_dff, hL⟩ hK hP hD hS d_Checker_init_36
theorem d_Board_init_0 : decode b_Board_init 0 = .ok (.aload_n 0, 1) := by decide +kernel
theorem d_Board_init_1 : decode b_Board_init 1 = .ok (.invokespecial 7, 3) := by decide +kernel
theorem d_Board_init_4 : decode b_Board_init 4 = .ok (.aload_n 0, 1) := by decide +kernel
theorem d_Board_init_5 : decode b_Board_init 5 = .ok (.aconst_null, 1) := by decide +kernel
theorem d_Board_init_6 : decode b_Board_init 6 = .ok (.putfield 13, 3) := by decide +kernel
theorem d_Board_init_9 : decode b_Board_init 9 = .ok (.aload_n 0, 1) := by decide +kernel
theorem d_Board_init_10 : decode b_Board_init 10 = .ok (.iconst 0, 1) := by decide +kernel
theorem d_Board_init_11 : decode b_Board_init 11 = .ok (.putfield 17, 3) := by decide +kernel
theorem d_Board_init_14 : decode b_Board_init 14 = .ok (.aload_n 0, 1) := by decide +kernel
theorem d_Board_init_15 : decode b_Board_init 15 = .ok (.sipush 8000, 3) := by decide +kernel
theorem d_Board_init_18 : decode b_Board_init 18 = .ok (.newarray .int, 2) := by decide +kernel
theorem d_Board_init_20 : decode b_Board_init 20 = .ok (.putfield 21, 3) := by decide +kernel
theorem d_Board_init_23 : decode b_Board_init 23 = .ok (.aload_n 0, 1) := by decide +kernel
theorem d_Board_init_24 : decode b_Board_init 24 = .ok (.iconst 0, 1) := by decide +kernel
theorem d_Board_init_25 : decode b_Board_init 25 = .ok (.putfield 25, 3) := by decide +kernel
theorem d_Board_init_28 : decode b_Board_init 28 = .ok (.aload_n 0, 1) := by decide +kernel
theorem d_Board_init_29 : decode b_Board_init 29 = .ok (.sipush 300, 3) := by decide +kernel
theorem d_Board_init_32 : decode b_Board_init 32 = .ok (.newarray .boolean, 2) := by decide +kernel
theorem d_Board_init_34 : decode b_Board_init 34 = .ok (.putfield 28, 3) := by decide +kernel
theorem d_Board_init_37 : decode b_Board_init 37 = .ok (.aload_n 0, 1) := by decide +kernel
theorem d_Board_init_38 : decode b_Board_init 38 = .ok (.sipush 300, 3) := by decide +kernel
theorem d_Board_init_41 : decode b_Board_init 41 = .ok (.newarray .int, 2) := by decide +kernel
theorem d_Board_init_43 : decode b_Board_init 43 = .ok (.putfield 32, 3) := by decide +kernel
theorem d_Board_init_46 : decode b_Board_init 46 = .ok (.aload_n 0, 1) := by decide +kernel
theorem d_Board_init_47 : decode b_Board_init 47 = .ok (.sipush 300, 3) := by decide +kernel
theorem d_Board_init_50 : decode b_Board_init 50 = .ok (.newarray .int, 2) := by decide +kernel
theorem d_Board_init_52 : decode b_Board_init 52 = .ok (.putfield 35, 3) := by decide +kernel
theorem d_Board_init_55 : decode b_Board_init 55 = .ok (.aload_n 0, 1) := by decide +kernel
theorem d_Board_init_56 : decode b_Board_init 56 = .ok (.iconst 0, 1) := by decide +kernel
theorem d_Board_init_57 : decode b_Board_init 57 = .ok (.putfield 38, 3) := by decide +kernel
theorem d_Board_init_60 : decode b_Board_init 60 = .ok (.aload_n 0, 1) := by decide +kernel
theorem d_Board_init_61 : decode b_Board_init 61 = .ok (.iconst 0, 1) := by decide +kernel
theorem d_Board_init_62 : decode b_Board_init 62 = .ok (.putfield 41, 3) := by decide +kernel
theorem d_Board_init_65 : decode b_Board_init 65 = .ok (.aload_n 0, 1) := by decide +kernel
theorem d_Board_init_66 : decode b_Board_init 66 = .ok (.iconst 2, 1) := by decide +kernel
theorem d_Board_init_67 : decode b_Board_init 67 = .ok (.putfield 44, 3) := by decide +kernel
theorem d_Board_init_70 : decode b_Board_init 70 = .ok (.aload_n 0, 1) := by decide +kernel
theorem d_Board_init_71 : decode b_Board_init 71 = .ok (.sipush 430, 3) := by decide +kernel
theorem d_Board_init_74 : decode b_Board_init 74 = .ok (.newarray .boolean, 2) := by decide +kernel
theorem d_Board_init_76 : decode b_Board_init 76 = .ok (.putfield 47, 3) := by decide +kernel
theorem d_Board_init_79 : decode b_Board_init 79 = .ok (.aload_n 0, 1) := by decide +kernel
theorem d_Board_init_80 : decode b_Board_init 80 = .ok (.sipush 430, 3) := by decide +kernel
theorem d_Board_init_83 : decode b_Board_init 83 = .ok (.newarray .int, 2) := by decide +kernel
theorem d_Board_init_85 : decode b_Board_init 85 = .ok (.putfield 50, 3) := by decide +kernel
theorem d_Board_init_88 : decode b_Board_init 88 = .ok (.aload_n 0, 1) := by decide +kernel
theorem d_Board_init_89 : decode b_Board_init 89 = .ok (.iconst 0, 1) := by decide +kernel
theorem d_Board_init_90 : decode b_Board_init 90 = .ok (.putfield 53, 3) := by decide +kernel
theorem d_Board_init_93 : decode b_Board_init 93 = .ok (.aload_n 0, 1) := by decide +kernel
theorem d_Board_init_94 : decode b_Board_init 94 = .ok (.sipush 300, 3) := by decide +kernel
theorem d_Board_init_97 : decode b_Board_init 97 = .ok (.newarray .int, 2) := by decide +kernel
theorem d_Board_init_99 : decode b_Board_init 99 = .ok (.putfield 56, 3) := by decide +kernel
theorem d_Board_init_102 : decode b_Board_init 102 = .ok (.aload_n 0, 1) := by decide +kernel
theorem d_Board_init_103 : decode b_Board_init 103 = .ok (.iconst 0, 1) := by decide +kernel
theorem d_Board_init_104 : decode b_Board_init 104 = .ok (.putfield 59, 3) := by decide +kernel
theorem d_Board_init_107 : decode b_Board_init 107 = .ok (.aload_n 0, 1) := by decide +kernel
theorem d_Board_init_108 : decode b_Board_init 108 = .ok (.sipush 300, 3) := by decide +kernel
theorem d_Board_init_111 : decode b_Board_init 111 = .ok (.newarray .int, 2) := by decide +kernel
theorem d_Board_init_113 : decode b_Board_init 113 = .ok (.putfield 62, 3) := by decide +kernel
theorem d_Board_init_116 : decode b_Board_init 116 = .ok (.aload_n 0, 1) := by decide +kernel
theorem d_Board_init_117 : decode b_Board_init 117 = .ok (.sipush 300, 3) := by decide +kernel
theorem d_Board_init_120 : decode b_Board_init 120 = .ok (.newarray .boolean, 2) := by decide +kernel
theorem d_Board_init_122 : decode b_Board_init 122 = .ok (.putfield 65, 3) := by decide +kernel
theorem d_Board_init_125 : decode b_Board_init 125 = .ok (.aload_n 0, 1) := by decide +kernel
theorem d_Board_init_126 : decode b_Board_init 126 = .ok (.iconst 0, 1) := by decide +kernel
theorem d_Board_init_127 : decode b_Board_init 127 = .ok (.putfield 68, 3) := by decide +kernel
theorem d_Board_init_130 : decode b_Board_init 130 = .ok (.aload_n 0, 1) := by decide +kernel
theorem d_Board_init_131 : decode b_Board_init 131 = .ok (.iconst 0, 1) := by decide +kernel
theorem d_Board_init_132 : decode b_Board_init 132 = .ok (.putfield 71, 3) := by decide +kernel
theorem d_Board_init_135 : decode b_Board_init 135 = .ok (.return_, 1) := by decide +kernel
set_option maxHeartbeats 4000000 in
set_option maxRecDepth 100000 in
/-- Board_init -/
theorem c_Board_init (l : Launch) (dC : Nat → ClassId) (dI : Nat → Nat → Nat) (cB cI cL cZ cC cO : ClassId) (qo : Nat) {v0 v1 v2 v3 v4 v5 v6 v7 v8 v9 v10 v11 v12 v13 v14 v15 v16 v17 v18 : Value} (sz : Nat)  : Met l y_Board_init w_Board_init ({ frames := 1, cells := 9, slots := 10660, locals := 12 }) (va_Pc [.ref qo] (wB (dC, dI) cl [(cB, .byte), (cI, .int), (cL, .long), (cZ, .boolean), (cC, .char), (cO, .object "java/lang/Object")] sz [(qo, .inr (9, [v0, v1, v2, v3, v4, v5, v6, v7, v8, v9, v10, v11, v12, v13, v14, v15, v16, v17, v18]))])) (va_Qv (fun (u : List Nat) => True) (fun u t => wA (dC, dI) cl [(cB, .byte), (cI, .int), (cL, .long), (cZ, .boolean), (cC, .char), (cO, .object "java/lang/Object")] (va_A [(qo, .inr (9, [v0, v1, v2, v3, v4, v5, v6, v7, v8, v9, v10, v11, v12, v13, v14, v15, v16, v17, v18]))] sz) [(qo, .inr (9, [.null, .int (nI 0), .ref (u.getD 0 0), .int (nI 0), .ref (u.getD 1 0), .ref (u.getD 2 0), .ref (u.getD 3 0), .int (nI 0), .int (nI 0), .int (nI 2), .ref (u.getD 4 0), .ref (u.getD 5 0), .int (nI 0), .ref (u.getD 6 0), .int (nI 0), .ref (u.getD 7 0), .ref (u.getD 8 0), .int (nI 0), .int (nI 0)])), ((u.getD 0 0), .inl (cI, 8000, .inl (fun _ => 0))), ((u.getD 1 0), .inl (cZ, 300, .inl (fun _ => 0))), ((u.getD 2 0), .inl (cI, 300, .inl (fun _ => 0))), ((u.getD 3 0), .inl (cI, 300, .inl (fun _ => 0))), ((u.getD 4 0), .inl (cZ, 430, .inl (fun _ => 0))), ((u.getD 5 0), .inl (cI, 430, .inl (fun _ => 0))), ((u.getD 6 0), .inl (cI, 300, .inl (fun _ => 0))), ((u.getD 7 0), .inl (cI, 300, .inl (fun _ => 0))), ((u.getD 8 0), .inl (cZ, 300, .inl (fun _ => 0)))] t) (va_A [(qo, .inr (9, [v0, v1, v2, v3, v4, v5, v6, v7, v8, v9, v10, v11, v12, v13, v14, v15, v16, v17, v18]))] sz)) 9 10660 (va_A [(qo, .inr (9, [v0, v1, v2, v3, v4, v5, v6, v7, v8, v9, v10, v11, v12, v13, v14, v15, v16, v17, v18]))] sz) := by
  refine Met.ofW (cc := b_Board_init) (maxL := 1) (ret := none) (by decide) rfl ?_
  intro p e s m args below meth c s₁ B hml hv
  obtain ⟨rfl, hsz, hP, hK, hD0, hF⟩ := hv
  have hx := B.exec
  have hb := B.bytes
  have hr := B.returns
  have hts := atoms_spec (ws := w_Board_init) B.pre
  have hts : ∀ w ∈ tb, w.before _ s = true := fun w h => hts w (List.mem_cons_of_mem _ h)
  have hown : s.vm.findClass R_Board = some m.cls := findClass_of_methodNamed B.named
  have hlocks := B.notSynchronized
  have hin : meth.name = "<init>" := (name_of_methodNamed B.named B.method).1
  subst hsz
  have hD := hD0.self (sz := s.heap.size)
  generalize hAe : va_A [(qo, .inr (9, [v0, v1, v2, v3, v4, v5, v6, v7, v8, v9, v10, v11, v12, v13, v14, v15, v16, v17, v18]))] s.heap.size = A at hD hF ⊢
  have hA : ∀ q : Nat, s.heap.size ≤ q → A q := fun q h => by rw [← hAe]; exact Or.inr h
  have hS : va_S A s.heap s.heap [] := va_S.rf
  have hP : va_P (dC, dI) cl [(qo, .inr (9, [v0, v1, v2, v3, v4, v5, v6, v7, v8, v9, v10, v11, v12, v13, v14, v15, v16, v17, v18]))] s.heap := hP
  have hl := lv_entry ([.ref qo]) (n := 1) (Nat.le_of_ble_eq_true rfl)
  rw [lg_entry_eq]
  generalize (lg_sl ([.ref qo]) ++ List.replicate (1 - (lg_sl ([.ref qo])).length) Slot.unset).toArray = ls at hl ⊢
  have hl : lv_has ls 1 [(0, .ref qo)] := hl
  refine lv_aload_n hx hb d_Board_init_0 rfl (lv_at hl 0 rfl) ?_
  refine W.objInit hx hb hown (hts _ k_372) (hts _ k_29) (hts _ k_30) rfl (by rw [hml]; exact hl.1) rfl d_Board_init_1 (Nat.le_of_ble_eq_true rfl) (Nat.le_of_ble_eq_true rfl) ?_
  refine W.eq (g2 := F0 m 4 ls []) rfl ?_
  refine lv_aload_n hx hb d_Board_init_4 rfl (lv_at hl 0 rfl) ?_
  refine lv_null hx hb d_Board_init_5 ?_
  refine va_put (D := (dC, dI)) (ci := 9) (v := .null) (ty := .object "ChipDesk$Chip") (C := R_Board) (T := F_Board) (N := 19) hx hb hts i_Board t_Board t_Board_ok n_Board hown hK hP hD hS 0 rfl rfl 0 (by decide) (hts _ k_373) (fun _ h9 => h9) rfl (by decide +kernel) rfl rfl (Nat.le_of_ble_eq_true rfl) d_Board_init_6 (fun H locs hP hD hS => ?_)
  have hP : va_P (dC, dI) cl [(qo, .inr (9, [.null, v1, v2, v3, v4, v5, v6, v7, v8, v9, v10, v11, v12, v13, v14, v15, v16, v17, v18]))] H := hP
  have hD : va_D A [(qo, .inr (9, [.null, v1, v2, v3, v4, v5, v6, v7, v8, v9, v10, v11, v12, v13, v14, v15, v16, v17, v18]))] := hD
  refine lv_aload_n hx hb d_Board_init_9 rfl (lv_at hl 0 rfl) ?_
  refine lv_iconst (v := nI 0) hx hb d_Board_init_10 (by decide) ?_
  refine va_put (D := (dC, dI)) (ci := 9) (v := .int (nI 0)) (ty := .int) (C := R_Board) (T := F_Board) (N := 19) hx hb hts i_Board t_Board t_Board_ok n_Board hown hK hP hD hS 0 rfl rfl 1 (by decide) (hts _ k_374) (fun _ h9 => h9) rfl (by decide +kernel) rfl rfl (Nat.le_of_ble_eq_true rfl) d_Board_init_11 (fun H locs hP hD hS => ?_)
  have hP : va_P (dC, dI) cl [(qo, .inr (9, [.null, .int (nI 0), v2, v3, v4, v5, v6, v7, v8, v9, v10, v11, v12, v13, v14, v15, v16, v17, v18]))] H := hP
  have hD : va_D A [(qo, .inr (9, [.null, .int (nI 0), v2, v3, v4, v5, v6, v7, v8, v9, v10, v11, v12, v13, v14, v15, v16, v17, v18]))] := hD
  refine lv_aload_n hx hb d_Board_init_14 rfl (lv_at hl 0 rfl) ?_
  refine lv_sipush (v := nI 8000) hx hb d_Board_init_15 (by decide) ?_
  refine va_newa (atype := .int) (ty := .int) (N' := 8000) (a0 := (8000, .inl (fun _ => 0))) hx hb (hts _ k_66) rfl hK hP hD hS hA (fun _ => rfl) (by decide) (by decide) (by decide) (Nat.le_of_ble_eq_true rfl) (Nat.le_of_ble_eq_true rfl) d_Board_init_18 (fun q_1 cA9 H hK9 hP hD hS => ?_)
  have hc9 : cI = cA9 := (ty_eq hK9 (k := 1) rfl (fun _ h9 => h9)).symm
  clear hK9
  subst hc9
  have hP : va_P (dC, dI) cl [(qo, .inr (9, [.null, .int (nI 0), v2, v3, v4, v5, v6, v7, v8, v9, v10, v11, v12, v13, v14, v15, v16, v17, v18])), (q_1, .inl (cI, 8000, .inl (fun _ => 0)))] H := hP
  have hD : va_D A [(qo, .inr (9, [.null, .int (nI 0), v2, v3, v4, v5, v6, v7, v8, v9, v10, v11, v12, v13, v14, v15, v16, v17, v18])), (q_1, .inl (cI, 8000, .inl (fun _ => 0)))] := hD
  refine va_putF (D := (dC, dI)) (ci := 9) (v := .ref q_1) (ty := .array (.int)) (C := R_Board) (T := F_Board) (N := 19) hx hb hts i_Board t_Board t_Board_ok n_Board hown hK hP hD hS 0 rfl rfl 2 (by decide) (hts _ k_375) (fun _ h9 => h9) rfl hin rfl (by decide +kernel) rfl rfl (Nat.le_of_ble_eq_true rfl) d_Board_init_20 (fun H locs hP hD hS => ?_)
  have hP : va_P (dC, dI) cl [(qo, .inr (9, [.null, .int (nI 0), .ref q_1, v3, v4, v5, v6, v7, v8, v9, v10, v11, v12, v13, v14, v15, v16, v17, v18])), (q_1, .inl (cI, 8000, .inl (fun _ => 0)))] H := hP
  have hD : va_D A [(qo, .inr (9, [.null, .int (nI 0), .ref q_1, v3, v4, v5, v6, v7, v8, v9, v10, v11, v12, v13, v14, v15, v16, v17, v18])), (q_1, .inl (cI, 8000, .inl (fun _ => 0)))] := hD
  refine lv_aload_n hx hb d_Board_init_23 rfl (lv_at hl 0 rfl) ?_
  refine lv_iconst (v := nI 0) hx hb d_Board_init_24 (by decide) ?_
  refine va_put (D := (dC, dI)) (ci := 9) (v := .int (nI 0)) (ty := .int) (C := R_Board) (T := F_Board) (N := 19) hx hb hts i_Board t_Board t_Board_ok n_Board hown hK hP hD hS 0 rfl rfl 3 (by decide) (hts _ k_376) (fun _ h9 => h9) rfl (by decide +kernel) rfl rfl (Nat.le_of_ble_eq_true rfl) d_Board_init_25 (fun H locs hP hD hS => ?_)
  have hP : va_P (dC, dI) cl [(qo, .inr (9, [.null, .int (nI 0), .ref q_1, .int (nI 0), v4, v5, v6, v7, v8, v9, v10, v11, v12, v13, v14, v15, v16, v17, v18])), (q_1, .inl (cI, 8000, .inl (fun _ => 0)))] H := hP
  have hD : va_D A [(qo, .inr (9, [.null, .int (nI 0), .ref q_1, .int (nI 0), v4, v5, v6, v7, v8, v9, v10, v11, v12, v13, v14, v15, v16, v17, v18])), (q_1, .inl (cI, 8000, .inl (fun _ => 0)))] := hD
  refine lv_aload_n hx hb d_Board_init_28 rfl (lv_at hl 0 rfl) ?_
  refine lv_sipush (v := nI 300) hx hb d_Board_init_29 (by decide) ?_
  refine va_newa (atype := .boolean) (ty := .boolean) (N' := 300) (a0 := (300, .inl (fun _ => 0))) hx hb (hts _ k_431) rfl hK hP hD hS hA (fun _ => rfl) (by decide) (by decide) (by decide) (Nat.le_of_ble_eq_true rfl) (Nat.le_of_ble_eq_true rfl) d_Board_init_32 (fun q_2 cA9 H hK9 hP hD hS => ?_)
  have hc9 : cZ = cA9 := (ty_eq hK9 (k := 3) rfl (fun _ h9 => h9)).symm
  clear hK9
  subst hc9
  have hP : va_P (dC, dI) cl [(qo, .inr (9, [.null, .int (nI 0), .ref q_1, .int (nI 0), v4, v5, v6, v7, v8, v9, v10, v11, v12, v13, v14, v15, v16, v17, v18])), (q_1, .inl (cI, 8000, .inl (fun _ => 0))), (q_2, .inl (cZ, 300, .inl (fun _ => 0)))] H := hP
  have hD : va_D A [(qo, .inr (9, [.null, .int (nI 0), .ref q_1, .int (nI 0), v4, v5, v6, v7, v8, v9, v10, v11, v12, v13, v14, v15, v16, v17, v18])), (q_1, .inl (cI, 8000, .inl (fun _ => 0))), (q_2, .inl (cZ, 300, .inl (fun _ => 0)))] := hD
  refine va_putF (D := (dC, dI)) (ci := 9) (v := .ref q_2) (ty := .array (.boolean)) (C := R_Board) (T := F_Board) (N := 19) hx hb hts i_Board t_Board t_Board_ok n_Board hown hK hP hD hS 0 rfl rfl 4 (by decide) (hts _ k_377) (fun _ h9 => h9) rfl hin rfl (by decide +kernel) rfl rfl (Nat.le_of_ble_eq_true rfl) d_Board_init_34 (fun H locs hP hD hS => ?_)
  have hP : va_P (dC, dI) cl [(qo, .inr (9, [.null, .int (nI 0), .ref q_1, .int (nI 0), .ref q_2, v5, v6, v7, v8, v9, v10, v11, v12, v13, v14, v15, v16, v17, v18])), (q_1, .inl (cI, 8000, .inl (fun _ => 0))), (q_2, .inl (cZ, 300, .inl (fun _ => 0)))] H := hP
  have hD : va_D A [(qo, .inr (9, [.null, .int (nI 0), .ref q_1, .int (nI 0), .ref q_2, v5, v6, v7, v8, v9, v10, v11, v12, v13, v14, v15, v16, v17, v18])), (q_1, .inl (cI, 8000, .inl (fun _ => 0))), (q_2, .inl (cZ, 300, .inl (fun _ => 0)))] := hD
  refine lv_aload_n hx hb d_Board_init_37 rfl (lv_at hl 0 rfl) ?_
  refine lv_sipush (v := nI 300) hx hb d_Board_init_38 (by decide) ?_
  refine va_newa (atype := .int) (ty := .int) (N' := 300) (a0 := (300, .inl (fun _ => 0))) hx hb (hts _ k_66) rfl hK hP hD hS hA (fun _ => rfl) (by decide) (by decide) (by decide) (Nat.le_of_ble_eq_true rfl) (Nat.le_of_ble_eq_true rfl) d_Board_init_41 (fun q_3 cA9 H hK9 hP hD hS => ?_)
  have hc9 : cI = cA9 := (ty_eq hK9 (k := 1) rfl (fun _ h9 => h9)).symm
  clear hK9
  subst hc9
  have hP : va_P (dC, dI) cl [(qo, .inr (9, [.null, .int (nI 0), .ref q_1, .int (nI 0), .ref q_2, v5, v6, v7, v8, v9, v10, v11, v12, v13, v14, v15, v16, v17, v18])), (q_1, .inl (cI, 8000, .inl (fun _ => 0))), (q_2, .inl (cZ, 300, .inl (fun _ => 0))), (q_3, .inl (cI, 300, .inl (fun _ => 0)))] H := hP
  have hD : va_D A [(qo, .inr (9, [.null, .int (nI 0), .ref q_1, .int (nI 0), .ref q_2, v5, v6, v7, v8, v9, v10, v11, v12, v13, v14, v15, v16, v17, v18])), (q_1, .inl (cI, 8000, .inl (fun _ => 0))), (q_2, .inl (cZ, 300, .inl (fun _ => 0))), (q_3, .inl (cI, 300, .inl (fun _ => 0)))] := hD
  refine va_putF (D := (dC, dI)) (ci := 9) (v := .ref q_3) (ty := .array (.int)) (C := R_Board) (T := F_Board) (N := 19) hx hb hts i_Board t_Board t_Board_ok n_Board hown hK hP hD hS 0 rfl rfl 5 (by decide) (hts _ k_378) (fun _ h9 => h9) rfl hin rfl (by decide +kernel) rfl rfl (Nat.le_of_ble_eq_true rfl) d_Board_init_43 (fun H locs hP hD hS => ?_)
  have hP : va_P (dC, dI) cl [(qo, .inr (9, [.null, .int (nI 0), .ref q_1, .int (nI 0), .ref q_2, .ref q_3, v6, v7, v8, v9, v10, v11, v12, v13, v14, v15, v16, v17, v18])), (q_1, .inl (cI, 8000, .inl (fun _ => 0))), (q_2, .inl (cZ, 300, .inl (fun _ => 0))), (q_3, .inl (cI, 300, .inl (fun _ => 0)))] H := hP
  have hD : va_D A [(qo, .inr (9, [.null, .int (nI 0), .ref q_1, .int (nI 0), .ref q_2, .ref q_3, v6, v7, v8, v9, v10, v11, v12, v13, v14, v15, v16, v17, v18])), (q_1, .inl (cI, 8000, .inl (fun _ => 0))), (q_2, .inl (cZ, 300, .inl (fun _ => 0))), (q_3, .inl (cI, 300, .inl (fun _ => 0)))] := hD
  refine lv_aload_n hx hb d_Board_init_46 rfl (lv_at hl 0 rfl) ?_
  refine lv_sipush (v := nI 300) hx hb d_Board_init_47 (by decide) ?_
  refine va_newa (atype := .int) (ty := .int) (N' := 300) (a0 := (300, .inl (fun _ => 0))) hx hb (hts _ k_66) rfl hK hP hD hS hA (fun _ => rfl) (by decide) (by decide) (by decide) (Nat.le_of_ble_eq_true rfl) (Nat.le_of_ble_eq_true rfl) d_Board_init_50 (fun q_4 cA9 H hK9 hP hD hS => ?_)
  have hc9 : cI = cA9 := (ty_eq hK9 (k := 1) rfl (fun _ h9 => h9)).symm
  clear hK9
  subst hc9
  have hP : va_P (dC, dI) cl [(qo, .inr (9, [.null, .int (nI 0), .ref q_1, .int (nI 0), .ref q_2, .ref q_3, v6, v7, v8, v9, v10, v11, v12, v13, v14, v15, v16, v17, v18])), (q_1, .inl (cI, 8000, .inl (fun _ => 0))), (q_2, .inl (cZ, 300, .inl (fun _ => 0))), (q_3, .inl (cI, 300, .inl (fun _ => 0))), (q_4, .inl (cI, 300, .inl (fun _ => 0)))] H := hP
  have hD : va_D A [(qo, .inr (9, [.null, .int (nI 0), .ref q_1, .int (nI 0), .ref q_2, .ref q_3, v6, v7, v8, v9, v10, v11, v12, v13, v14, v15, v16, v17, v18])), (q_1, .inl (cI, 8000, .inl (fun _ => 0))), (q_2, .inl (cZ, 300, .inl (fun _ => 0))), (q_3, .inl (cI, 300, .inl (fun _ => 0))), (q_4, .inl (cI, 300, .inl (fun _ => 0)))] := hD
  refine va_putF (D := (dC, dI)) (ci := 9) (v := .ref q_4) (ty := .array (.int)) (C := R_Board) (T := F_Board) (N := 19) hx hb hts i_Board t_Board t_Board_ok n_Board hown hK hP hD hS 0 rfl rfl 6 (by decide) (hts _ k_379) (fun _ h9 => h9) rfl hin rfl (by decide +kernel) rfl rfl (Nat.le_of_ble_eq_true rfl) d_Board_init_52 (fun H locs hP hD hS => ?_)
  have hP : va_P (dC, dI) cl [(qo, .inr (9, [.null, .int (nI 0), .ref q_1, .int (nI 0), .ref q_2, .ref q_3, .ref q_4, v7, v8, v9, v10, v11, v12, v13, v14, v15, v16, v17, v18])), (q_1, .inl (cI, 8000, .inl (fun _ => 0))), (q_2, .inl (cZ, 300, .inl (fun _ => 0))), (q_3, .inl (cI, 300, .inl (fun _ => 0))), (q_4, .inl (cI, 300, .inl (fun _ => 0)))] H := hP
  have hD : va_D A [(qo, .inr (9, [.null, .int (nI 0), .ref q_1, .int (nI 0), .ref q_2, .ref q_3, .ref q_4, v7, v8, v9, v10, v11, v12, v13, v14, v15, v16, v17, v18])), (q_1, .inl (cI, 8000, .inl (fun _ => 0))), (q_2, .inl (cZ, 300, .inl (fun _ => 0))), (q_3, .inl (cI, 300, .inl (fun _ => 0))), (q_4, .inl (cI, 300, .inl (fun _ => 0)))] := hD
  refine lv_aload_n hx hb d_Board_init_55 rfl (lv_at hl 0 rfl) ?_
  refine lv_iconst (v := nI 0) hx hb d_Board_init_56 (by decide) ?_
  refine va_put (D := (dC, dI)) (ci := 9) (v := .int (nI 0)) (ty := .int) (C := R_Board) (T := F_Board) (N := 19) hx hb hts i_Board t_Board t_Board_ok n_Board hown hK hP hD hS 0 rfl rfl 7 (by decide) (hts _ k_380) (fun _ h9 => h9) rfl (by decide +kernel) rfl rfl (Nat.le_of_ble_eq_true rfl) d_Board_init_57 (fun H locs hP hD hS => ?_)
  have hP : va_P (dC, dI) cl [(qo, .inr (9, [.null, .int (nI 0), .ref q_1, .int (nI 0), .ref q_2, .ref q_3, .ref q_4, .int (nI 0), v8, v9, v10, v11, v12, v13, v14, v15, v16, v17, v18])), (q_1, .inl (cI, 8000, .inl (fun _ => 0))), (q_2, .inl (cZ, 300, .inl (fun _ => 0))), (q_3, .inl (cI, 300, .inl (fun _ => 0))), (q_4, .inl (cI, 300, .inl (fun _ => 0)))] H := hP
  have hD : va_D A [(qo, .inr (9, [.null, .int (nI 0), .ref q_1, .int (nI 0), .ref q_2, .ref q_3, .ref q_4, .int (nI 0), v8, v9, v10, v11, v12, v13, v14, v15, v16, v17, v18])), (q_1, .inl (cI, 8000, .inl (fun _ => 0))), (q_2, .inl (cZ, 300, .inl (fun _ => 0))), (q_3, .inl (cI, 300, .inl (fun _ => 0))), (q_4, .inl (cI, 300, .inl (fun _ => 0)))] := hD
  refine lv_aload_n hx hb d_Board_init_60 rfl (lv_at hl 0 rfl) ?_
  refine lv_iconst (v := nI 0) hx hb d_Board_init_61 (by decide) ?_
  refine va_put (D := (dC, dI)) (ci := 9) (v := .int (nI 0)) (ty := .int) (C := R_Board) (T := F_Board) (N := 19) hx hb hts i_Board t_Board t_Board_ok n_Board hown hK hP hD hS 0 rfl rfl 8 (by decide) (hts _ k_381) (fun _ h9 => h9) rfl (by decide +kernel) rfl rfl (Nat.le_of_ble_eq_true rfl) d_Board_init_62 (fun H locs hP hD hS => ?_)
  have hP : va_P (dC, dI) cl [(qo, .inr (9, [.null, .int (nI 0), .ref q_1, .int (nI 0), .ref q_2, .ref q_3, .ref q_4, .int (nI 0), .int (nI 0), v9, v10, v11, v12, v13, v14, v15, v16, v17, v18])), (q_1, .inl (cI, 8000, .inl (fun _ => 0))), (q_2, .inl (cZ, 300, .inl (fun _ => 0))), (q_3, .inl (cI, 300, .inl (fun _ => 0))), (q_4, .inl (cI, 300, .inl (fun _ => 0)))] H := hP
  have hD : va_D A [(qo, .inr (9, [.null, .int (nI 0), .ref q_1, .int (nI 0), .ref q_2, .ref q_3, .ref q_4, .int (nI 0), .int (nI 0), v9, v10, v11, v12, v13, v14, v15, v16, v17, v18])), (q_1, .inl (cI, 8000, .inl (fun _ => 0))), (q_2, .inl (cZ, 300, .inl (fun _ => 0))), (q_3, .inl (cI, 300, .inl (fun _ => 0))), (q_4, .inl (cI, 300, .inl (fun _ => 0)))] := hD
  refine lv_aload_n hx hb d_Board_init_65 rfl (lv_at hl 0 rfl) ?_
  refine lv_iconst (v := nI 2) hx hb d_Board_init_66 (by decide) ?_
  refine va_put (D := (dC, dI)) (ci := 9) (v := .int (nI 2)) (ty := .int) (C := R_Board) (T := F_Board) (N := 19) hx hb hts i_Board t_Board t_Board_ok n_Board hown hK hP hD hS 0 rfl rfl 9 (by decide) (hts _ k_382) (fun _ h9 => h9) rfl (by decide +kernel) rfl rfl (Nat.le_of_ble_eq_true rfl) d_Board_init_67 (fun H locs hP hD hS => ?_)
  have hP : va_P (dC, dI) cl [(qo, .inr (9, [.null, .int (nI 0), .ref q_1, .int (nI 0), .ref q_2, .ref q_3, .ref q_4, .int (nI 0), .int (nI 0), .int (nI 2), v10, v11, v12, v13, v14, v15, v16, v17, v18])), (q_1, .inl (cI, 8000, .inl (fun _ => 0))), (q_2, .inl (cZ, 300, .inl (fun _ => 0))), (q_3, .inl (cI, 300, .inl (fun _ => 0))), (q_4, .inl (cI, 300, .inl (fun _ => 0)))] H := hP
  have hD : va_D A [(qo, .inr (9, [.null, .int (nI 0), .ref q_1, .int (nI 0), .ref q_2, .ref q_3, .ref q_4, .int (nI 0), .int (nI 0), .int (nI 2), v10, v11, v12, v13, v14, v15, v16, v17, v18])), (q_1, .inl (cI, 8000, .inl (fun _ => 0))), (q_2, .inl (cZ, 300, .inl (fun _ => 0))), (q_3, .inl (cI, 300, .inl (fun _ => 0))), (q_4, .inl (cI, 300, .inl (fun _ => 0)))] := hD
  refine lv_aload_n hx hb d_Board_init_70 rfl (lv_at hl 0 rfl) ?_
  refine lv_sipush (v := nI 430) hx hb d_Board_init_71 (by decide) ?_
  refine va_newa (atype := .boolean) (ty := .boolean) (N' := 430) (a0 := (430, .inl (fun _ => 0))) hx hb (hts _ k_431) rfl hK hP hD hS hA (fun _ => rfl) (by decide) (by decide) (by decide) (Nat.le_of_ble_eq_true rfl) (Nat.le_of_ble_eq_true rfl) d_Board_init_74 (fun q_5 cA9 H hK9 hP hD hS => ?_)
  have hc9 : cZ = cA9 := (ty_eq hK9 (k := 3) rfl (fun _ h9 => h9)).symm
  clear hK9
  subst hc9
  have hP : va_P (dC, dI) cl [(qo, .inr (9, [.null, .int (nI 0), .ref q_1, .int (nI 0), .ref q_2, .ref q_3, .ref q_4, .int (nI 0), .int (nI 0), .int (nI 2), v10, v11, v12, v13, v14, v15, v16, v17, v18])), (q_1, .inl (cI, 8000, .inl (fun _ => 0))), (q_2, .inl (cZ, 300, .inl (fun _ => 0))), (q_3, .inl (cI, 300, .inl (fun _ => 0))), (q_4, .inl (cI, 300, .inl (fun _ => 0))), (q_5, .inl (cZ, 430, .inl (fun _ => 0)))] H := hP
  have hD : va_D A [(qo, .inr (9, [.null, .int (nI 0), .ref q_1, .int (nI 0), .ref q_2, .ref q_3, .ref q_4, .int (nI 0), .int (nI 0), .int (nI 2), v10, v11, v12, v13, v14, v15, v16, v17, v18])), (q_1, .inl (cI, 8000, .inl (fun _ => 0))), (q_2, .inl (cZ, 300, .inl (fun _ => 0))), (q_3, .inl (cI, 300, .inl (fun _ => 0))), (q_4, .inl (cI, 300, .inl (fun _ => 0))), (q_5, .inl (cZ, 430, .inl (fun _ => 0)))] := hD
  refine va_putF (D := (dC, dI)) (ci := 9) (v := .ref q_5) (ty := .array (.boolean)) (C := R_Board) (T := F_Board) (N := 19) hx hb hts i_Board t_Board t_Board_ok n_Board hown hK hP hD hS 0 rfl rfl 10 (by decide) (hts _ k_383) (fun _ h9 => h9) rfl hin rfl (by decide +kernel) rfl rfl (Nat.le_of_ble_eq_true rfl) d_Board_init_76 (fun H locs hP hD hS => ?_)
  have hP : va_P (dC, dI) cl [(qo, .inr (9, [.null, .int (nI 0), .ref q_1, .int (nI 0), .ref q_2, .ref q_3, .ref q_4, .int (nI 0), .int (nI 0), .int (nI 2), .ref q_5, v11, v12, v13, v14, v15, v16, v17, v18])), (q_1, .inl (cI, 8000, .inl (fun _ => 0))), (q_2, .inl (cZ, 300, .inl (fun _ => 0))), (q_3, .inl (cI, 300, .inl (fun _ => 0))), (q_4, .inl (cI, 300, .inl (fun _ => 0))), (q_5, .inl (cZ, 430, .inl (fun _ => 0)))] H := hP
  have hD : va_D A [(qo, .inr (9, [.null, .int (nI 0), .ref q_1, .int (nI 0), .ref q_2, .ref q_3, .ref q_4, .int (nI 0), .int (nI 0), .int (nI 2), .ref q_5, v11, v12, v13, v14, v15, v16, v17, v18])), (q_1, .inl (cI, 8000, .inl (fun _ => 0))), (q_2, .inl (cZ, 300, .inl (fun _ => 0))), (q_3, .inl (cI, 300, .inl (fun _ => 0))), (q_4, .inl (cI, 300, .inl (fun _ => 0))), (q_5, .inl (cZ, 430, .inl (fun _ => 0)))] := hD
  refine lv_aload_n hx hb d_Board_init_79 rfl (lv_at hl 0 rfl) ?_
  refine lv_sipush (v := nI 430) hx hb d_Board_init_80 (by decide) ?_
  refine va_newa (atype := .int) (ty := .int) (N' := 430) (a0 := (430, .inl (fun _ => 0))) hx hb (hts _ k_66) rfl hK hP hD hS hA (fun _ => rfl) (by decide) (by decide) (by decide) (Nat.le_of_ble_eq_true rfl) (Nat.le_of_ble_eq_true rfl) d_Board_init_83 (fun q_6 cA9 H hK9 hP hD hS => ?_)
  have hc9 : cI = cA9 := (ty_eq hK9 (k := 1) rfl (fun _ h9 => h9)).symm
  clear hK9
  subst hc9
  have hP : va_P (dC, dI) cl [(qo, .inr (9, [.null, .int (nI 0), .ref q_1, .int (nI 0), .ref q_2, .ref q_3, .ref q_4, .int (nI 0), .int (nI 0), .int (nI 2), .ref q_5, v11, v12, v13, v14, v15, v16, v17, v18])), (q_1, .inl (cI, 8000, .inl (fun _ => 0))), (q_2, .inl (cZ, 300, .inl (fun _ => 0))), (q_3, .inl (cI, 300, .inl (fun _ => 0))), (q_4, .inl (cI, 300, .inl (fun _ => 0))), (q_5, .inl (cZ, 430, .inl (fun _ => 0))), (q_6, .inl (cI, 430, .inl (fun _ => 0)))] H := hP
  have hD : va_D A [(qo, .inr (9, [.null, .int (nI 0), .ref q_1, .int (nI 0), .ref q_2, .ref q_3, .ref q_4, .int (nI 0), .int (nI 0), .int (nI 2), .ref q_5, v11, v12, v13, v14, v15, v16, v17, v18])), (q_1, .inl (cI, 8000, .inl (fun _ => 0))), (q_2, .inl (cZ, 300, .inl (fun _ => 0))), (q_3, .inl (cI, 300, .inl (fun _ => 0))), (q_4, .inl (cI, 300, .inl (fun _ => 0))), (q_5, .inl (cZ, 430, .inl (fun _ => 0))), (q_6, .inl (cI, 430, .inl (fun _ => 0)))] := hD
  refine va_putF (D := (dC, dI)) (ci := 9) (v := .ref q_6) (ty := .array (.int)) (C := R_Board) (T := F_Board) (N := 19) hx hb hts i_Board t_Board t_Board_ok n_Board hown hK hP hD hS 0 rfl rfl 11 (by decide) (hts _ k_384) (fun _ h9 => h9) rfl hin rfl (by decide +kernel) rfl rfl (Nat.le_of_ble_eq_true rfl) d_Board_init_85 (fun H locs hP hD hS => ?_)
  have hP : va_P (dC, dI) cl [(qo, .inr (9, [.null, .int (nI 0), .ref q_1, .int (nI 0), .ref q_2, .ref q_3, .ref q_4, .int (nI 0), .int (nI 0), .int (nI 2), .ref q_5, .ref q_6, v12, v13, v14, v15, v16, v17, v18])), (q_1, .inl (cI, 8000, .inl (fun _ => 0))), (q_2, .inl (cZ, 300, .inl (fun _ => 0))), (q_3, .inl (cI, 300, .inl (fun _ => 0))), (q_4, .inl (cI, 300, .inl (fun _ => 0))), (q_5, .inl (cZ, 430, .inl (fun _ => 0))), (q_6, .inl (cI, 430, .inl (fun _ => 0)))] H := hP
  have hD : va_D A [(qo, .inr (9, [.null, .int (nI 0), .ref q_1, .int (nI 0), .ref q_2, .ref q_3, .ref q_4, .int (nI 0), .int (nI 0), .int (nI 2), .ref q_5, .ref q_6, v12, v13, v14, v15, v16, v17, v18])), (q_1, .inl (cI, 8000, .inl (fun _ => 0))), (q_2, .inl (cZ, 300, .inl (fun _ => 0))), (q_3, .inl (cI, 300, .inl (fun _ => 0))), (q_4, .inl (cI, 300, .inl (fun _ => 0))), (q_5, .inl (cZ, 430, .inl (fun _ => 0))), (q_6, .inl (cI, 430, .inl (fun _ => 0)))] := hD
  refine lv_aload_n hx hb d_Board_init_88 rfl (lv_at hl 0 rfl) ?_
  refine lv_iconst (v := nI 0) hx hb d_Board_init_89 (by decide) ?_
  refine va_put (D := (dC, dI)) (ci := 9) (v := .int (nI 0)) (ty := .int) (C := R_Board) (T := F_Board) (N := 19) hx hb hts i_Board t_Board t_Board_ok n_Board hown hK hP hD hS 0 rfl rfl 12 (by decide) (hts _ k_385) (fun _ h9 => h9) rfl (by decide +kernel) rfl rfl (Nat.le_of_ble_eq_true rfl) d_Board_init_90 (fun H locs hP hD hS => ?_)
  have hP : va_P (dC, dI) cl [(qo, .inr (9, [.null, .int (nI 0), .ref q_1, .int (nI 0), .ref q_2, .ref q_3, .ref q_4, .int (nI 0), .int (nI 0), .int (nI 2), .ref q_5, .ref q_6, .int (nI 0), v13, v14, v15, v16, v17, v18])), (q_1, .inl (cI, 8000, .inl (fun _ => 0))), (q_2, .inl (cZ, 300, .inl (fun _ => 0))), (q_3, .inl (cI, 300, .inl (fun _ => 0))), (q_4, .inl (cI, 300, .inl (fun _ => 0))), (q_5, .inl (cZ, 430, .inl (fun _ => 0))), (q_6, .inl (cI, 430, .inl (fun _ => 0)))] H := hP
  have hD : va_D A [(qo, .inr (9, [.null, .int (nI 0), .ref q_1, .int (nI 0), .ref q_2, .ref q_3, .ref q_4, .int (nI 0), .int (nI 0), .int (nI 2), .ref q_5, .ref q_6, .int (nI 0), v13, v14, v15, v16, v17, v18])), (q_1, .inl (cI, 8000, .inl (fun _ => 0))), (q_2, .inl (cZ, 300, .inl (fun _ => 0))), (q_3, .inl (cI, 300, .inl (fun _ => 0))), (q_4, .inl (cI, 300, .inl (fun _ => 0))), (q_5, .inl (cZ, 430, .inl (fun _ => 0))), (q_6, .inl (cI, 430, .inl (fun _ => 0)))] := hD
  refine lv_aload_n hx hb d_Board_init_93 rfl (lv_at hl 0 rfl) ?_
  refine lv_sipush (v := nI 300) hx hb d_Board_init_94 (by decide) ?_
  refine va_newa (atype := .int) (ty := .int) (N' := 300) (a0 := (300, .inl (fun _ => 0))) hx hb (hts _ k_66) rfl hK hP hD hS hA (fun _ => rfl) (by decide) (by decide) (by decide) (Nat.le_of_ble_eq_true rfl) (Nat.le_of_ble_eq_true rfl) d_Board_init_97 (fun q_7 cA9 H hK9 hP hD hS => ?_)
  have hc9 : cI = cA9 := (ty_eq hK9 (k := 1) rfl (fun _ h9 => h9)).symm
  clear hK9
  subst hc9
  have hP : va_P (dC, dI) cl [(qo, .inr (9, [.null, .int (nI 0), .ref q_1, .int (nI 0), .ref q_2, .ref q_3, .ref q_4, .int (nI 0), .int (nI 0), .int (nI 2), .ref q_5, .ref q_6, .int (nI 0), v13, v14, v15, v16, v17, v18])), (q_1, .inl (cI, 8000, .inl (fun _ => 0))), (q_2, .inl (cZ, 300, .inl (fun _ => 0))), (q_3, .inl (cI, 300, .inl (fun _ => 0))), (q_4, .inl (cI, 300, .inl (fun _ => 0))), (q_5, .inl (cZ, 430, .inl (fun _ => 0))), (q_6, .inl (cI, 430, .inl (fun _ => 0))), (q_7, .inl (cI, 300, .inl (fun _ => 0)))] H := hP
  have hD : va_D A [(qo, .inr (9, [.null, .int (nI 0), .ref q_1, .int (nI 0), .ref q_2, .ref q_3, .ref q_4, .int (nI 0), .int (nI 0), .int (nI 2), .ref q_5, .ref q_6, .int (nI 0), v13, v14, v15, v16, v17, v18])), (q_1, .inl (cI, 8000, .inl (fun _ => 0))), (q_2, .inl (cZ, 300, .inl (fun _ => 0))), (q_3, .inl (cI, 300, .inl (fun _ => 0))), (q_4, .inl (cI, 300, .inl (fun _ => 0))), (q_5, .inl (cZ, 430, .inl (fun _ => 0))), (q_6, .inl (cI, 430, .inl (fun _ => 0))), (q_7, .inl (cI, 300, .inl (fun _ => 0)))] := hD
  refine va_putF (D := (dC, dI)) (ci := 9) (v := .ref q_7) (ty := .array (.int)) (C := R_Board) (T := F_Board) (N := 19) hx hb hts i_Board t_Board t_Board_ok n_Board hown hK hP hD hS 0 rfl rfl 13 (by decide) (hts _ k_386) (fun _ h9 => h9) rfl hin rfl (by decide +kernel) rfl rfl (Nat.le_of_ble_eq_true rfl) d_Board_init_99 (fun H locs hP hD hS => ?_)
  have hP : va_P (dC, dI) cl [(qo, .inr (9, [.null, .int (nI 0), .ref q_1, .int (nI 0), .ref q_2, .ref q_3, .ref q_4, .int (nI 0), .int (nI 0), .int (nI 2), .ref q_5, .ref q_6, .int (nI 0), .ref q_7, v14, v15, v16, v17, v18])), (q_1, .inl (cI, 8000, .inl (fun _ => 0))), (q_2, .inl (cZ, 300, .inl (fun _ => 0))), (q_3, .inl (cI, 300, .inl (fun _ => 0))), (q_4, .inl (cI, 300, .inl (fun _ => 0))), (q_5, .inl (cZ, 430, .inl (fun _ => 0))), (q_6, .inl (cI, 430, .inl (fun _ => 0))), (q_7, .inl (cI, 300, .inl (fun _ => 0)))] H := hP
  have hD : va_D A [(qo, .inr (9, [.null, .int (nI 0), .ref q_1, .int (nI 0), .ref q_2, .ref q_3, .ref q_4, .int (nI 0), .int (nI 0), .int (nI 2), .ref q_5, .ref q_6, .int (nI 0), .ref q_7, v14, v15, v16, v17, v18])), (q_1, .inl (cI, 8000, .inl (fun _ => 0))), (q_2, .inl (cZ, 300, .inl (fun _ => 0))), (q_3, .inl (cI, 300, .inl (fun _ => 0))), (q_4, .inl (cI, 300, .inl (fun _ => 0))), (q_5, .inl (cZ, 430, .inl (fun _ => 0))), (q_6, .inl (cI, 430, .inl (fun _ => 0))), (q_7, .inl (cI, 300, .inl (fun _ => 0)))] := hD
  refine lv_aload_n hx hb d_Board_init_102 rfl (lv_at hl 0 rfl) ?_
  refine lv_iconst (v := nI 0) hx hb d_Board_init_103 (by decide) ?_
  refine va_put (D := (dC, dI)) (ci := 9) (v := .int (nI 0)) (ty := .int) (C := R_Board) (T := F_Board) (N := 19) hx hb hts i_Board t_Board t_Board_ok n_Board hown hK hP hD hS 0 rfl rfl 14 (by decide) (hts _ k_387) (fun _ h9 => h9) rfl (by decide +kernel) rfl rfl (Nat.le_of_ble_eq_true rfl) d_Board_init_104 (fun H locs hP hD hS => ?_)
  have hP : va_P (dC, dI) cl [(qo, .inr (9, [.null, .int (nI 0), .ref q_1, .int (nI 0), .ref q_2, .ref q_3, .ref q_4, .int (nI 0), .int (nI 0), .int (nI 2), .ref q_5, .ref q_6, .int (nI 0), .ref q_7, .int (nI 0), v15, v16, v17, v18])), (q_1, .inl (cI, 8000, .inl (fun _ => 0))), (q_2, .inl (cZ, 300, .inl (fun _ => 0))), (q_3, .inl (cI, 300, .inl (fun _ => 0))), (q_4, .inl (cI, 300, .inl (fun _ => 0))), (q_5, .inl (cZ, 430, .inl (fun _ => 0))), (q_6, .inl (cI, 430, .inl (fun _ => 0))), (q_7, .inl (cI, 300, .inl (fun _ => 0)))] H := hP
  have hD : va_D A [(qo, .inr (9, [.null, .int (nI 0), .ref q_1, .int (nI 0), .ref q_2, .ref q_3, .ref q_4, .int (nI 0), .int (nI 0), .int (nI 2), .ref q_5, .ref q_6, .int (nI 0), .ref q_7, .int (nI 0), v15, v16, v17, v18])), (q_1, .inl (cI, 8000, .inl (fun _ => 0))), (q_2, .inl (cZ, 300, .inl (fun _ => 0))), (q_3, .inl (cI, 300, .inl (fun _ => 0))), (q_4, .inl (cI, 300, .inl (fun _ => 0))), (q_5, .inl (cZ, 430, .inl (fun _ => 0))), (q_6, .inl (cI, 430, .inl (fun _ => 0))), (q_7, .inl (cI, 300, .inl (fun _ => 0)))] := hD
  refine lv_aload_n hx hb d_Board_init_107 rfl (lv_at hl 0 rfl) ?_
  refine lv_sipush (v := nI 300) hx hb d_Board_init_108 (by decide) ?_
  refine va_newa (atype := .int) (ty := .int) (N' := 300) (a0 := (300, .inl (fun _ => 0))) hx hb (hts _ k_66) rfl hK hP hD hS hA (fun _ => rfl) (by decide) (by decide) (by decide) (Nat.le_of_ble_eq_true rfl) (Nat.le_of_ble_eq_true rfl) d_Board_init_111 (fun q_8 cA9 H hK9 hP hD hS => ?_)
  have hc9 : cI = cA9 := (ty_eq hK9 (k := 1) rfl (fun _ h9 => h9)).symm
  clear hK9
  subst hc9
  have hP : va_P (dC, dI) cl [(qo, .inr (9, [.null, .int (nI 0), .ref q_1, .int (nI 0), .ref q_2, .ref q_3, .ref q_4, .int (nI 0), .int (nI 0), .int (nI 2), .ref q_5, .ref q_6, .int (nI 0), .ref q_7, .int (nI 0), v15, v16, v17, v18])), (q_1, .inl (cI, 8000, .inl (fun _ => 0))), (q_2, .inl (cZ, 300, .inl (fun _ => 0))), (q_3, .inl (cI, 300, .inl (fun _ => 0))), (q_4, .inl (cI, 300, .inl (fun _ => 0))), (q_5, .inl (cZ, 430, .inl (fun _ => 0))), (q_6, .inl (cI, 430, .inl (fun _ => 0))), (q_7, .inl (cI, 300, .inl (fun _ => 0))), (q_8, .inl (cI, 300, .inl (fun _ => 0)))] H := hP
  have hD : va_D A [(qo, .inr (9, [.null, .int (nI 0), .ref q_1, .int (nI 0), .ref q_2, .ref q_3, .ref q_4, .int (nI 0), .int (nI 0), .int (nI 2), .ref q_5, .ref q_6, .int (nI 0), .ref q_7, .int (nI 0), v15, v16, v17, v18])), (q_1, .inl (cI, 8000, .inl (fun _ => 0))), (q_2, .inl (cZ, 300, .inl (fun _ => 0))), (q_3, .inl (cI, 300, .inl (fun _ => 0))), (q_4, .inl (cI, 300, .inl (fun _ => 0))), (q_5, .inl (cZ, 430, .inl (fun _ => 0))), (q_6, .inl (cI, 430, .inl (fun _ => 0))), (q_7, .inl (cI, 300, .inl (fun _ => 0))), (q_8, .inl (cI, 300, .inl (fun _ => 0)))] := hD
  refine va_putF (D := (dC, dI)) (ci := 9) (v := .ref q_8) (ty := .array (.int)) (C := R_Board) (T := F_Board) (N := 19) hx hb hts i_Board t_Board t_Board_ok n_Board hown hK hP hD hS 0 rfl rfl 15 (by decide) (hts _ k_388) (fun _ h9 => h9) rfl hin rfl (by decide +kernel) rfl rfl (Nat.le_of_ble_eq_true rfl) d_Board_init_113 (fun H locs hP hD hS => ?_)
  have hP : va_P (dC, dI) cl [(qo, .inr (9, [.null, .int (nI 0), .ref q_1, .int (nI 0), .ref q_2, .ref q_3, .ref q_4, .int (nI 0), .int (nI 0), .int (nI 2), .ref q_5, .ref q_6, .int (nI 0), .ref q_7, .int (nI 0), .ref q_8, v16, v17, v18])), (q_1, .inl (cI, 8000, .inl (fun _ => 0))), (q_2, .inl (cZ, 300, .inl (fun _ => 0))), (q_3, .inl (cI, 300, .inl (fun _ => 0))), (q_4, .inl (cI, 300, .inl (fun _ => 0))), (q_5, .inl (cZ, 430, .inl (fun _ => 0))), (q_6, .inl (cI, 430, .inl (fun _ => 0))), (q_7, .inl (cI, 300, .inl (fun _ => 0))), (q_8, .inl (cI, 300, .inl (fun _ => 0)))] H := hP
  have hD : va_D A [(qo, .inr (9, [.null, .int (nI 0), .ref q_1, .int (nI 0), .ref q_2, .ref q_3, .ref q_4, .int (nI 0), .int (nI 0), .int (nI 2), .ref q_5, .ref q_6, .int (nI 0), .ref q_7, .int (nI 0), .ref q_8, v16, v17, v18])), (q_1, .inl (cI, 8000, .inl (fun _ => 0))), (q_2, .inl (cZ, 300, .inl (fun _ => 0))), (q_3, .inl (cI, 300, .inl (fun _ => 0))), (q_4, .inl (cI, 300, .inl (fun _ => 0))), (q_5, .inl (cZ, 430, .inl (fun _ => 0))), (q_6, .inl (cI, 430, .inl (fun _ => 0))), (q_7, .inl (cI, 300, .inl (fun _ => 0))), (q_8, .inl (cI, 300, .inl (fun _ => 0)))] := hD
  refine lv_aload_n hx hb d_Board_init_116 rfl (lv_at hl 0 rfl) ?_
  refine lv_sipush (v := nI 300) hx hb d_Board_init_117 (by decide) ?_
  refine va_newa (atype := .boolean) (ty := .boolean) (N' := 300) (a0 := (300, .inl (fun _ => 0))) hx hb (hts _ k_431) rfl hK hP hD hS hA (fun _ => rfl) (by decide) (by decide) (by decide) (Nat.le_of_ble_eq_true rfl) (Nat.le_of_ble_eq_true rfl) d_Board_init_120 (fun q_9 cA9 H hK9 hP hD hS => ?_)
  have hc9 : cZ = cA9 := (ty_eq hK9 (k := 3) rfl (fun _ h9 => h9)).symm
  clear hK9
  subst hc9
  have hP : va_P (dC, dI) cl [(qo, .inr (9, [.null, .int (nI 0), .ref q_1, .int (nI 0), .ref q_2, .ref q_3, .ref q_4, .int (nI 0), .int (nI 0), .int (nI 2), .ref q_5, .ref q_6, .int (nI 0), .ref q_7, .int (nI 0), .ref q_8, v16, v17, v18])), (q_1, .inl (cI, 8000, .inl (fun _ => 0))), (q_2, .inl (cZ, 300, .inl (fun _ => 0))), (q_3, .inl (cI, 300, .inl (fun _ => 0))), (q_4, .inl (cI, 300, .inl (fun _ => 0))), (q_5, .inl (cZ, 430, .inl (fun _ => 0))), (q_6, .inl (cI, 430, .inl (fun _ => 0))), (q_7, .inl (cI, 300, .inl (fun _ => 0))), (q_8, .inl (cI, 300, .inl (fun _ => 0))), (q_9, .inl (cZ, 300, .inl (fun _ => 0)))] H := hP
  have hD : va_D A [(qo, .inr (9, [.null, .int (nI 0), .ref q_1, .int (nI 0), .ref q_2, .ref q_3, .ref q_4, .int (nI 0), .int (nI 0), .int (nI 2), .ref q_5, .ref q_6, .int (nI 0), .ref q_7, .int (nI 0), .ref q_8, v16, v17, v18])), (q_1, .inl (cI, 8000, .inl (fun _ => 0))), (q_2, .inl (cZ, 300, .inl (fun _ => 0))), (q_3, .inl (cI, 300, .inl (fun _ => 0))), (q_4, .inl (cI, 300, .inl (fun _ => 0))), (q_5, .inl (cZ, 430, .inl (fun _ => 0))), (q_6, .inl (cI, 430, .inl (fun _ => 0))), (q_7, .inl (cI, 300, .inl (fun _ => 0))), (q_8, .inl (cI, 300, .inl (fun _ => 0))), (q_9, .inl (cZ, 300, .inl (fun _ => 0)))] := hD
  refine va_putF (D := (dC, dI)) (ci := 9) (v := .ref q_9) (ty := .array (.boolean)) (C := R_Board) (T := F_Board) (N := 19) hx hb hts i_Board t_Board t_Board_ok n_Board hown hK hP hD hS 0 rfl rfl 16 (by decide) (hts _ k_389) (fun _ h9 => h9) rfl hin rfl (by decide +kernel) rfl rfl (Nat.le_of_ble_eq_true rfl) d_Board_init_122 (fun H locs hP hD hS => ?_)
  have hP : va_P (dC, dI) cl [(qo, .inr (9, [.null, .int (nI 0), .ref q_1, .int (nI 0), .ref q_2, .ref q_3, .ref q_4, .int (nI 0), .int (nI 0), .int (nI 2), .ref q_5, .ref q_6, .int (nI 0), .ref q_7, .int (nI 0), .ref q_8, .ref q_9, v17, v18])), (q_1, .inl (cI, 8000, .inl (fun _ => 0))), (q_2, .inl (cZ, 300, .inl (fun _ => 0))), (q_3, .inl (cI, 300, .inl (fun _ => 0))), (q_4, .inl (cI, 300, .inl (fun _ => 0))), (q_5, .inl (cZ, 430, .inl (fun _ => 0))), (q_6, .inl (cI, 430, .inl (fun _ => 0))), (q_7, .inl (cI, 300, .inl (fun _ => 0))), (q_8, .inl (cI, 300, .inl (fun _ => 0))), (q_9, .inl (cZ, 300, .inl (fun _ => 0)))] H := hP
  have hD : va_D A [(qo, .inr (9, [.null, .int (nI 0), .ref q_1, .int (nI 0), .ref q_2, .ref q_3, .ref q_4, .int (nI 0), .int (nI 0), .int (nI 2), .ref q_5, .ref q_6, .int (nI 0), .ref q_7, .int (nI 0), .ref q_8, .ref q_9, v17, v18])), (q_1, .inl (cI, 8000, .inl (fun _ => 0))), (q_2, .inl (cZ, 300, .inl (fun _ => 0))), (q_3, .inl (cI, 300, .inl (fun _ => 0))), (q_4, .inl (cI, 300, .inl (fun _ => 0))), (q_5, .inl (cZ, 430, .inl (fun _ => 0))), (q_6, .inl (cI, 430, .inl (fun _ => 0))), (q_7, .inl (cI, 300, .inl (fun _ => 0))), (q_8, .inl (cI, 300, .inl (fun _ => 0))), (q_9, .inl (cZ, 300, .inl (fun _ => 0)))] := hD
  refine lv_aload_n hx hb d_Board_init_125 rfl (lv_at hl 0 rfl) ?_
  refine lv_iconst (v := nI 0) hx hb d_Board_init_126 (by decide) ?_
  refine va_put (D := (dC, dI)) (ci := 9) (v := .int (nI 0)) (ty := .int) (C := R_Board) (T := F_Board) (N := 19) hx hb hts i_Board t_Board t_Board_ok n_Board hown hK hP hD hS 0 rfl rfl 17 (by decide) (hts _ k_390) (fun _ h9 => h9) rfl (by decide +kernel) rfl rfl (Nat.le_of_ble_eq_true rfl) d_Board_init_127 (fun H locs hP hD hS => ?_)
  have hP : va_P (dC, dI) cl [(qo, .inr (9, [.null, .int (nI 0), .ref q_1, .int (nI 0), .ref q_2, .ref q_3, .ref q_4, .int (nI 0), .int (nI 0), .int (nI 2), .ref q_5, .ref q_6, .int (nI 0), .ref q_7, .int (nI 0), .ref q_8, .ref q_9, .int (nI 0), v18])), (q_1, .inl (cI, 8000, .inl (fun _ => 0))), (q_2, .inl (cZ, 300, .inl (fun _ => 0))), (q_3, .inl (cI, 300, .inl (fun _ => 0))), (q_4, .inl (cI, 300, .inl (fun _ => 0))), (q_5, .inl (cZ, 430, .inl (fun _ => 0))), (q_6, .inl (cI, 430, .inl (fun _ => 0))), (q_7, .inl (cI, 300, .inl (fun _ => 0))), (q_8, .inl (cI, 300, .inl (fun _ => 0))), (q_9, .inl (cZ, 300, .inl (fun _ => 0)))] H := hP
  have hD : va_D A [(qo, .inr (9, [.null, .int (nI 0), .ref q_1, .int (nI 0), .ref q_2, .ref q_3, .ref q_4, .int (nI 0), .int (nI 0), .int (nI 2), .ref q_5, .ref q_6, .int (nI 0), .ref q_7, .int (nI 0), .ref q_8, .ref q_9, .int (nI 0), v18])), (q_1, .inl (cI, 8000, .inl (fun _ => 0))), (q_2, .inl (cZ, 300, .inl (fun _ => 0))), (q_3, .inl (cI, 300, .inl (fun _ => 0))), (q_4, .inl (cI, 300, .inl (fun _ => 0))), (q_5, .inl (cZ, 430, .inl (fun _ => 0))), (q_6, .inl (cI, 430, .inl (fun _ => 0))), (q_7, .inl (cI, 300, .inl (fun _ => 0))), (q_8, .inl (cI, 300, .inl (fun _ => 0))), (q_9, .inl (cZ, 300, .inl (fun _ => 0)))] := hD
  refine lv_aload_n hx hb d_Board_init_130 rfl (lv_at hl 0 rfl) ?_
  refine lv_iconst (v := nI 0) hx hb d_Board_init_131 (by decide) ?_
  refine va_put (D := (dC, dI)) (ci := 9) (v := .int (nI 0)) (ty := .int) (C := R_Board) (T := F_Board) (N := 19) hx hb hts i_Board t_Board t_Board_ok n_Board hown hK hP hD hS 0 rfl rfl 18 (by decide) (hts _ k_391) (fun _ h9 => h9) rfl (by decide +kernel) rfl rfl (Nat.le_of_ble_eq_true rfl) d_Board_init_132 (fun H locs hP hD hS => ?_)
  have hP : va_P (dC, dI) cl [(qo, .inr (9, [.null, .int (nI 0), .ref q_1, .int (nI 0), .ref q_2, .ref q_3, .ref q_4, .int (nI 0), .int (nI 0), .int (nI 2), .ref q_5, .ref q_6, .int (nI 0), .ref q_7, .int (nI 0), .ref q_8, .ref q_9, .int (nI 0), .int (nI 0)])), (q_1, .inl (cI, 8000, .inl (fun _ => 0))), (q_2, .inl (cZ, 300, .inl (fun _ => 0))), (q_3, .inl (cI, 300, .inl (fun _ => 0))), (q_4, .inl (cI, 300, .inl (fun _ => 0))), (q_5, .inl (cZ, 430, .inl (fun _ => 0))), (q_6, .inl (cI, 430, .inl (fun _ => 0))), (q_7, .inl (cI, 300, .inl (fun _ => 0))), (q_8, .inl (cI, 300, .inl (fun _ => 0))), (q_9, .inl (cZ, 300, .inl (fun _ => 0)))] H := hP
  have hD : va_D A [(qo, .inr (9, [.null, .int (nI 0), .ref q_1, .int (nI 0), .ref q_2, .ref q_3, .ref q_4, .int (nI 0), .int (nI 0), .int (nI 2), .ref q_5, .ref q_6, .int (nI 0), .ref q_7, .int (nI 0), .ref q_8, .ref q_9, .int (nI 0), .int (nI 0)])), (q_1, .inl (cI, 8000, .inl (fun _ => 0))), (q_2, .inl (cZ, 300, .inl (fun _ => 0))), (q_3, .inl (cI, 300, .inl (fun _ => 0))), (q_4, .inl (cI, 300, .inl (fun _ => 0))), (q_5, .inl (cZ, 430, .inl (fun _ => 0))), (q_6, .inl (cI, 430, .inl (fun _ => 0))), (q_7, .inl (cI, 300, .inl (fun _ => 0))), (q_8, .inl (cI, 300, .inl (fun _ => 0))), (q_9, .inl (cZ, 300, .inl (fun _ => 0)))] := hD
  exact wr_v hx hb hr hlocks [q_1, q_2, q_3, q_4, q_5, q_6, q_7, q_8, q_9] trivial hK hP hD hS d_Board_init_135
