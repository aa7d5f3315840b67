theorem d_Desk_drive_0 : decode b_Desk_drive 0 = .ok (.aload_n 0, 1) := by decide +kernel
theorem d_Desk_drive_1 : decode b_Desk_drive 1 = .ok (.getfield 48, 3) := by decide +kernel
theorem d_Desk_drive_4 : decode b_Desk_drive 4 = .ok (.iload_n 1, 1) := by decide +kernel
theorem d_Desk_drive_5 : decode b_Desk_drive 5 = .ok (.iload_n 2, 1) := by decide +kernel
theorem d_Desk_drive_6 : decode b_Desk_drive 6 = .ok (.invokevirtual 104, 3) := by decide +kernel
theorem d_Desk_drive_9 : decode b_Desk_drive 9 = .ok (.ireturn, 1) := by decide +kernel
set_option maxHeartbeats 4000000 in
set_option maxRecDepth 100000 in
/-- Desk_drive -/
theorem p_Desk_drive (l : Launch) (dC : Nat → ClassId) (dI : Nat → Nat → Nat) (cB cI cL cZ cC cO : ClassId) {qz : Nat}{d0 d1 d2 d3 : Value}{qd a_firstIn a_secondIn a_value a_order : Nat}{f1 f2 f3 f4 f7 f8 f11 f12 f15 f16 f17 : Value} {L : List Nat} {G : PG} (ct pl ip fg no on : Nat) (xs : List Nat) (fi si od : Nat → Nat) (va : Nat → Bool) (x y : Int32) (t0 sz : Nat) (hL : gL L G) (kct : G.1 ct = 6) (hip : G.2.1 ct 6 = ip) (hpl : G.2.2.2.2.2 ct 3 = some pl) (hls : LSx t0 G pl xs) (hxs : xs.length ≤ 16) (hix : ip ≤ xs.length) (hno : no ≤ 300) (hgd : ∀ i, i < no → od i < 300 ∧ fi (od i) < 430 ∧ si (od i) < 430) (hfg : fg ≤ 130) (hxw : ∀ a, (sIn ip xs x) = some a → G.1 a = 2 ∧ G.2.1 a 2 ≤ 16 ∧ G.2.1 a 4 + G.2.1 a 2 + 2 ≤ fg) : Met l y_Desk_drive w_Desk_drive ({ frames := 6, cells := 0, slots := 0, locals := 300 }) (va_Pc [.ref qz, .int x, .int y] (wB2 (dC, dI) cl [(cB, .byte), (cI, .int), (cL, .long), (cZ, .boolean), (cC, .char), (cO, .object "java/lang/Object")] sz t0 ([(qz, .inr (0, [d0, d1, d2, d3, .ref qd])), (qd, .inr (9, [.ref ct, f1, f2, f3, f4, .ref a_firstIn, .ref a_secondIn, f7, f8, .int (nI fg), .ref a_value, f11, f12, .ref a_order, .int (nI no), f15, f16, f17, .int (nI on)])), (a_firstIn, .inl (cI, 300, .inl (nF fi))), (a_secondIn, .inl (cI, 300, .inl (nF si))), (a_value, .inl (cZ, 430, .inl (bF va))), (a_order, .inl (cI, 300, .inl (nF od)))] ++ va_pl L (gE cO G)))) (va_Qi (fun (r : Int32) (u : (Nat → Bool) × Nat) => r = bI (sIn ip xs x).isSome ∧ u = (match (sIn ip xs x) with | none => (va, on) | some a => bd_set od fi si fg no 0 (drc y (2 + G.2.1 a 4) (G.2.1 a 2) 0 va, 0))) (fun u t => wA (dC, dI) cl [(cB, .byte), (cI, .int), (cL, .long), (cZ, .boolean), (cC, .char), (cO, .object "java/lang/Object")] (va_A ([(qz, .inr (0, [d0, d1, d2, d3, .ref qd])), (qd, .inr (9, [.ref ct, f1, f2, f3, f4, .ref a_firstIn, .ref a_secondIn, f7, f8, .int (nI fg), .ref a_value, f11, f12, .ref a_order, .int (nI no), f15, f16, f17, .int (nI on)])), (a_firstIn, .inl (cI, 300, .inl (nF fi))), (a_secondIn, .inl (cI, 300, .inl (nF si))), (a_value, .inl (cZ, 430, .inl (bF va))), (a_order, .inl (cI, 300, .inl (nF od)))] ++ va_pl L (gE cO G)) sz) ([(qz, .inr (0, [d0, d1, d2, d3, .ref qd])), (qd, .inr (9, [.ref ct, f1, f2, f3, f4, .ref a_firstIn, .ref a_secondIn, f7, f8, .int (nI fg), .ref a_value, f11, f12, .ref a_order, .int (nI no), f15, f16, f17, .int (nI u.2)])), (a_firstIn, .inl (cI, 300, .inl (nF fi))), (a_secondIn, .inl (cI, 300, .inl (nF si))), (a_value, .inl (cZ, 430, .inl (bF u.1))), (a_order, .inl (cI, 300, .inl (nF od)))] ++ va_pl L (gE cO G)) t) (va_A ([(qz, .inr (0, [d0, d1, d2, d3, .ref qd])), (qd, .inr (9, [.ref ct, f1, f2, f3, f4, .ref a_firstIn, .ref a_secondIn, f7, f8, .int (nI fg), .ref a_value, f11, f12, .ref a_order, .int (nI no), f15, f16, f17, .int (nI on)])), (a_firstIn, .inl (cI, 300, .inl (nF fi))), (a_secondIn, .inl (cI, 300, .inl (nF si))), (a_value, .inl (cZ, 430, .inl (bF va))), (a_order, .inl (cI, 300, .inl (nF od)))] ++ va_pl L (gE cO G)) sz)) 0 0 (va_A ([(qz, .inr (0, [d0, d1, d2, d3, .ref qd])), (qd, .inr (9, [.ref ct, f1, f2, f3, f4, .ref a_firstIn, .ref a_secondIn, f7, f8, .int (nI fg), .ref a_value, f11, f12, .ref a_order, .int (nI no), f15, f16, f17, .int (nI on)])), (a_firstIn, .inl (cI, 300, .inl (nF fi))), (a_secondIn, .inl (cI, 300, .inl (nF si))), (a_value, .inl (cZ, 430, .inl (bF va))), (a_order, .inl (cI, 300, .inl (nF od)))] ++ va_pl L (gE cO G)) sz) := by
  refine Met.ofW (cc := b_Desk_drive) (maxL := 3) (ret := (some ClassFile.FieldType.boolean)) (by decide) rfl ?_
  intro p e s m args below meth c s₁ B hml hv
  obtain ⟨rfl, ⟨hsz, hP, hK, hD0, hF⟩, hE⟩ := hv
  have hx := B.exec
  have hb := B.bytes
  have hr := B.returns
  have hts := atoms_spec (ws := w_Desk_drive) B.pre
  have hts : ∀ w ∈ tb, w.before _ s = true := fun w h => hts w (List.mem_cons_of_mem _ h)
  have hown : s.vm.findClass R_Desk = some m.cls := findClass_of_methodNamed B.named
  have hlocks := B.notSynchronized
  subst hsz
  have hD := hD0.self (sz := s.heap.size)
  generalize hAe : va_A ([(qz, .inr (0, [d0, d1, d2, d3, .ref qd])), (qd, .inr (9, [.ref ct, f1, f2, f3, f4, .ref a_firstIn, .ref a_secondIn, f7, f8, .int (nI fg), .ref a_value, f11, f12, .ref a_order, .int (nI no), f15, f16, f17, .int (nI on)])), (a_firstIn, .inl (cI, 300, .inl (nF fi))), (a_secondIn, .inl (cI, 300, .inl (nF si))), (a_value, .inl (cZ, 430, .inl (bF va))), (a_order, .inl (cI, 300, .inl (nF od)))] ++ va_pl L (gE cO G)) s.heap.size = A at hD hF hE ⊢
  have hA : ∀ q : Nat, s.heap.size ≤ q → A q := fun q h => by rw [← hAe]; exact Or.inr h
  have hS : va_S A s.heap s.heap [] := va_S.rf
  have hP : va_P (dC, dI) cl ([(qz, .inr (0, [d0, d1, d2, d3, .ref qd])), (qd, .inr (9, [.ref ct, f1, f2, f3, f4, .ref a_firstIn, .ref a_secondIn, f7, f8, .int (nI fg), .ref a_value, f11, f12, .ref a_order, .int (nI no), f15, f16, f17, .int (nI on)])), (a_firstIn, .inl (cI, 300, .inl (nF fi))), (a_secondIn, .inl (cI, 300, .inl (nF si))), (a_value, .inl (cZ, 430, .inl (bF va))), (a_order, .inl (cI, 300, .inl (nF od)))] ++ va_pl L (gE cO G)) s.heap := hP
  have hl := lv_entry ([.ref qz, .int x, .int y]) (n := 3) (Nat.le_of_ble_eq_true rfl)
  rw [lg_entry_eq]
  generalize (lg_sl ([.ref qz, .int x, .int y]) ++ List.replicate (3 - (lg_sl ([.ref qz, .int x, .int y])).length) Slot.unset).toArray = ls at hl ⊢
  have hl : lv_has ls 3 [(0, .ref qz), (1, .int x), (2, .int y)] := hl
  refine lv_aload_n hx hb d_Desk_drive_0 rfl (lv_at hl 0 rfl) ?_
  refine va_get (D := (dC, dI)) (ci := 0) (v := .ref qd) (C := R_Desk) (T := F_Desk) (N := 5) hx hb hts i_Desk hown hK hP 0 rfl rfl 4 (by decide) (hts _ k_436) (fun _ h9 => h9) rfl d_Desk_drive_1 ?_
  refine lv_iload_n hx hb d_Desk_drive_4 rfl (lv_at hl 1 rfl) ?_
  refine lv_iload_n hx hb d_Desk_drive_5 rfl (lv_at hl 2 rfl) ?_
  refine wd_i (cx := [(qd, .inr (9, [.ref ct, f1, f2, f3, f4, .ref a_firstIn, .ref a_secondIn, f7, f8, .int (nI fg), .ref a_value, f11, f12, .ref a_order, .int (nI no), f15, f16, f17, .int (nI on)])), (a_firstIn, .inl (cI, 300, .inl (nF fi))), (a_secondIn, .inl (cI, 300, .inl (nF si))), (a_value, .inl (cZ, 430, .inl (bF va))), (a_order, .inl (cI, 300, .inl (nF od)))]) (wr := [(qz, .inr (0, [d0, d1, d2, d3, .ref qd]))]) (pl := va_pl L (gE cO G)) (va_runV (As := [.int x, .int y]) (rest := []) ⟨hx, hb, hml, hown, hts⟩ (p_Board_setIn l dC dI cB cI cL cZ cC cO ct pl ip fg no on xs fi si od va x y t0 _ hL kct hip hpl hls hxs hix hno hgd hfg hxw) (cwV 2 hts (good_V k_839 k_840 k_841 k_18 k_842) rfl rfl rfl (by decide +kernel) ⟨Nat.le_of_ble_eq_true rfl, Nat.le_of_ble_eq_true rfl⟩) (wd_preV (ci := 9) (r := (R_Board, F_Board, 19)) hK hP hD hS hA hF hE [1, 2, 3, 4, 5] (by decide) rfl rfl ⟨1, rfl⟩) rfl rfl hl.1 rfl (lv_room (Nat.le_of_ble_eq_true rfl)) d_Desk_drive_6 ⟨Nat.le_of_ble_eq_true rfl, Nat.le_of_ble_eq_true rfl⟩) hP hD hS hA [1, 2, 3, 4, 5] [0] rfl rfl (by decide) (by decide) (fun r_2 u H locs w_1 hP hD hS => ?_)
  have hP : va_P (dC, dI) cl ([(qz, .inr (0, [d0, d1, d2, d3, .ref qd])), (qd, .inr (9, [.ref ct, f1, f2, f3, f4, .ref a_firstIn, .ref a_secondIn, f7, f8, .int (nI fg), .ref a_value, f11, f12, .ref a_order, .int (nI no), f15, f16, f17, .int (nI u.2)])), (a_firstIn, .inl (cI, 300, .inl (nF fi))), (a_secondIn, .inl (cI, 300, .inl (nF si))), (a_value, .inl (cZ, 430, .inl (bF u.1))), (a_order, .inl (cI, 300, .inl (nF od)))] ++ va_pl L (gE cO G)) H := hP
  have hD : va_D A ([(qz, .inr (0, [d0, d1, d2, d3, .ref qd])), (qd, .inr (9, [.ref ct, f1, f2, f3, f4, .ref a_firstIn, .ref a_secondIn, f7, f8, .int (nI fg), .ref a_value, f11, f12, .ref a_order, .int (nI no), f15, f16, f17, .int (nI u.2)])), (a_firstIn, .inl (cI, 300, .inl (nF fi))), (a_secondIn, .inl (cI, 300, .inl (nF si))), (a_value, .inl (cZ, 430, .inl (bF u.1))), (a_order, .inl (cI, 300, .inl (nF od)))] ++ va_pl L (gE cO G)) := hD
  obtain ⟨r_2e, hu⟩ := w_1
  subst r_2e
  exact wr_z (x := (sIn ip xs x).isSome) hx hb hr hlocks u ⟨rfl, hu⟩ hK hP hD hS d_Desk_drive_9
set_option maxHeartbeats 4000000 in
set_option maxRecDepth 100000 in
/-- Desk_drive without a board -/
theorem c_Desk_driveN (l : Launch) (dC : Nat → ClassId) (dI : Nat → Nat → Nat) (cB cI cL cZ cC cO : ClassId) {qz : Nat}{d0 d1 d2 d3 : Value}{qd : Nat}{f1 f2 f3 f4 f5 f6 f7 f8 f9 f10 f11 f12 f13 f14 f15 f16 f17 f18 : Value} (x y : Int32) (sz : Nat)  : Met l y_Desk_drive w_Desk_drive ({ frames := 1, cells := 0, slots := 0, locals := 30 }) (va_Pc [.ref qz, .int x, .int y] (wB (dC, dI) cl [(cB, .byte), (cI, .int), (cL, .long), (cZ, .boolean), (cC, .char), (cO, .object "java/lang/Object")] sz [(qz, .inr (0, [d0, d1, d2, d3, .ref qd])), (qd, .inr (9, [.null, f1, f2, f3, f4, f5, f6, f7, f8, f9, f10, f11, f12, f13, f14, f15, f16, f17, f18]))])) (va_Qi (fun (r : Int32) (u : Unit) => r = bI false) (fun _ t => wA (dC, dI) cl [(cB, .byte), (cI, .int), (cL, .long), (cZ, .boolean), (cC, .char), (cO, .object "java/lang/Object")] (va_A [(qz, .inr (0, [d0, d1, d2, d3, .ref qd])), (qd, .inr (9, [.null, f1, f2, f3, f4, f5, f6, f7, f8, f9, f10, f11, f12, f13, f14, f15, f16, f17, f18]))] sz) [(qz, .inr (0, [d0, d1, d2, d3, .ref qd])), (qd, .inr (9, [.null, f1, f2, f3, f4, f5, f6, f7, f8, f9, f10, f11, f12, f13, f14, f15, f16, f17, f18]))] t) (va_A [(qz, .inr (0, [d0, d1, d2, d3, .ref qd])), (qd, .inr (9, [.null, f1, f2, f3, f4, f5, f6, f7, f8, f9, f10, f11, f12, f13, f14, f15, f16, f17, f18]))] sz)) 0 0 (va_A [(qz, .inr (0, [d0, d1, d2, d3, .ref qd])), (qd, .inr (9, [.null, f1, f2, f3, f4, f5, f6, f7, f8, f9, f10, f11, f12, f13, f14, f15, f16, f17, f18]))] sz) := by
  refine Met.ofW (cc := b_Desk_drive) (maxL := 3) (ret := (some ClassFile.FieldType.boolean)) (by decide) rfl ?_
  intro p e s m args below meth c s₁ B hml hv
  obtain ⟨rfl, hsz, hP, hK, hD0, hF⟩ := hv
  have hx := B.exec
  have hb := B.bytes
  have hr := B.returns
  have hts := atoms_spec (ws := w_Desk_drive) B.pre
  have hts : ∀ w ∈ tb, w.before _ s = true := fun w h => hts w (List.mem_cons_of_mem _ h)
  have hown : s.vm.findClass R_Desk = some m.cls := findClass_of_methodNamed B.named
  have hlocks := B.notSynchronized
  subst hsz
  have hD := hD0.self (sz := s.heap.size)
  generalize hAe : va_A [(qz, .inr (0, [d0, d1, d2, d3, .ref qd])), (qd, .inr (9, [.null, f1, f2, f3, f4, f5, f6, f7, f8, f9, f10, f11, f12, f13, f14, f15, f16, f17, f18]))] s.heap.size = A at hD hF ⊢
  have hA : ∀ q : Nat, s.heap.size ≤ q → A q := fun q h => by rw [← hAe]; exact Or.inr h
  have hS : va_S A s.heap s.heap [] := va_S.rf
  have hP : va_P (dC, dI) cl [(qz, .inr (0, [d0, d1, d2, d3, .ref qd])), (qd, .inr (9, [.null, f1, f2, f3, f4, f5, f6, f7, f8, f9, f10, f11, f12, f13, f14, f15, f16, f17, f18]))] s.heap := hP
  have hl := lv_entry ([.ref qz, .int x, .int y]) (n := 3) (Nat.le_of_ble_eq_true rfl)
  rw [lg_entry_eq]
  generalize (lg_sl ([.ref qz, .int x, .int y]) ++ List.replicate (3 - (lg_sl ([.ref qz, .int x, .int y])).length) Slot.unset).toArray = ls at hl ⊢
  have hl : lv_has ls 3 [(0, .ref qz), (1, .int x), (2, .int y)] := hl
  refine lv_aload_n hx hb d_Desk_drive_0 rfl (lv_at hl 0 rfl) ?_
  refine va_get (D := (dC, dI)) (ci := 0) (v := .ref qd) (C := R_Desk) (T := F_Desk) (N := 5) hx hb hts i_Desk hown hK hP 0 rfl rfl 4 (by decide) (hts _ k_436) (fun _ h9 => h9) rfl d_Desk_drive_1 ?_
  refine lv_iload_n hx hb d_Desk_drive_4 rfl (lv_at hl 1 rfl) ?_
  refine lv_iload_n hx hb d_Desk_drive_5 rfl (lv_at hl 2 rfl) ?_
  refine wc_i (wc := [(qd, .inr (9, [.null, f1, f2, f3, f4, f5, f6, f7, f8, f9, f10, f11, f12, f13, f14, f15, f16, f17, f18]))]) (wr := [(qz, .inr (0, [d0, d1, d2, d3, .ref qd]))]) (va_runV (As := [.int x, .int y]) (rest := []) ⟨hx, hb, hml, hown, hts⟩ (c_Board_setInN l dC dI cB cI cL cZ cC cO x y _ ) (cwV 2 hts (good_V k_839 k_840 k_841 k_18 k_842) rfl rfl rfl (by decide +kernel) ⟨Nat.le_of_ble_eq_true rfl, Nat.le_of_ble_eq_true rfl⟩) (wc_preV (k0 := 1) (ci := 9) (r := (R_Board, F_Board, 19)) hK hP hD hS hA hF [1] (by decide) rfl rfl rfl) rfl rfl hl.1 rfl (lv_room (Nat.le_of_ble_eq_true rfl)) d_Desk_drive_6 ⟨Nat.le_of_ble_eq_true rfl, Nat.le_of_ble_eq_true rfl⟩) hP hD hS hA [1] [0] rfl rfl (by decide) (by decide) (fun r_2 _ H locs w_1 hP hD hS => ?_)
  have hP : va_P (dC, dI) cl [(qz, .inr (0, [d0, d1, d2, d3, .ref qd])), (qd, .inr (9, [.null, f1, f2, f3, f4, f5, f6, f7, f8, f9, f10, f11, f12, f13, f14, f15, f16, f17, f18]))] H := hP
  have hD : va_D A [(qz, .inr (0, [d0, d1, d2, d3, .ref qd])), (qd, .inr (9, [.null, f1, f2, f3, f4, f5, f6, f7, f8, f9, f10, f11, f12, f13, f14, f15, f16, f17, f18]))] := hD
  subst w_1
  exact wr_z (x := false) hx hb hr hlocks () rfl hK hP hD hS d_Desk_drive_9
theorem d_Desk_pin_0 : decode b_Desk_pin 0 = .ok (.aload_n 0, 1) := by decide +kernel
theorem d_Desk_pin_1 : decode b_Desk_pin 1 = .ok (.getfield 48, 3) := by decide +kernel
theorem d_Desk_pin_4 : decode b_Desk_pin 4 = .ok (.iload_n 1, 1) := by decide +kernel
theorem d_Desk_pin_5 : decode b_Desk_pin 5 = .ok (.invokevirtual 107, 3) := by decide +kernel
theorem d_Desk_pin_8 : decode b_Desk_pin 8 = .ok (.ireturn, 1) := by decide +kernel
set_option maxHeartbeats 4000000 in
set_option maxRecDepth 100000 in
/-- Desk_pin -/
theorem p_Desk_pin (l : Launch) (dC : Nat → ClassId) (dI : Nat → Nat → Nat) (cB cI cL cZ cC cO : ClassId) {qz : Nat}{d0 d1 d2 d3 : Value}{qd a_from a_value : Nat}{f1 f4 f5 f6 f7 f8 f9 f11 f12 f13 f14 f15 f16 f17 f18 : Value} {L : List Nat} {G : PG} (ct pl ip nb : Nat) (xs : List Nat) (fr : Nat → Nat ⊕ Nat) (va : Nat → Bool) (x : Int32) (t0 sz : Nat) (hL : gL L G) (kct : G.1 ct = 6) (hip : G.2.1 ct 6 = ip) (hpl : G.2.2.2.2.2 ct 3 = some pl) (hls : LSx t0 G pl xs) (hxs : xs.length ≤ 16) (hix : ip ≤ xs.length) (hnb : nb ≤ 8000) (hfr : ∀ i b, fr i = .inl b → b < 8000) (hfs : ∀ i s, fr i = .inr s → s < 430) (hxw : ∀ a, (sOut ip xs x) = some a → G.1 a = 2 ∧ G.2.1 a 2 ≤ 16 ∧ G.2.1 a 4 + G.2.1 a 2 ≤ 8000 ∧ ∀ i, i < G.2.1 a 2 → sgo fr nb (G.2.1 a 4 + i) < 430) : Met l y_Desk_pin w_Desk_pin ({ frames := 6, cells := 0, slots := 0, locals := 300 }) (va_Pc [.ref qz, .int x] (wB2 (dC, dI) cl [(cB, .byte), (cI, .int), (cL, .long), (cZ, .boolean), (cC, .char), (cO, .object "java/lang/Object")] sz t0 ([(qz, .inr (0, [d0, d1, d2, d3, .ref qd])), (qd, .inr (9, [.ref ct, f1, .ref a_from, .int (nI nb), f4, f5, f6, f7, f8, f9, .ref a_value, f11, f12, f13, f14, f15, f16, f17, f18])), (a_from, .inl (cI, 8000, .inl (xF fr))), (a_value, .inl (cZ, 430, .inl (bF va)))] ++ va_pl L (gE cO G)))) (va_Qi (fun (r : Int32) (u : Unit) => r = oI ((sOut ip xs x).map (fun a => onm (fun i => va (sgo fr nb (G.2.1 a 4 + i))) (G.2.1 a 2) 0 0))) (fun _ t => wA (dC, dI) cl [(cB, .byte), (cI, .int), (cL, .long), (cZ, .boolean), (cC, .char), (cO, .object "java/lang/Object")] (va_A ([(qz, .inr (0, [d0, d1, d2, d3, .ref qd])), (qd, .inr (9, [.ref ct, f1, .ref a_from, .int (nI nb), f4, f5, f6, f7, f8, f9, .ref a_value, f11, f12, f13, f14, f15, f16, f17, f18])), (a_from, .inl (cI, 8000, .inl (xF fr))), (a_value, .inl (cZ, 430, .inl (bF va)))] ++ va_pl L (gE cO G)) sz) ([(qz, .inr (0, [d0, d1, d2, d3, .ref qd])), (qd, .inr (9, [.ref ct, f1, .ref a_from, .int (nI nb), f4, f5, f6, f7, f8, f9, .ref a_value, f11, f12, f13, f14, f15, f16, f17, f18])), (a_from, .inl (cI, 8000, .inl (xF fr))), (a_value, .inl (cZ, 430, .inl (bF va)))] ++ va_pl L (gE cO G)) t) (va_A ([(qz, .inr (0, [d0, d1, d2, d3, .ref qd])), (qd, .inr (9, [.ref ct, f1, .ref a_from, .int (nI nb), f4, f5, f6, f7, f8, f9, .ref a_value, f11, f12, f13, f14, f15, f16, f17, f18])), (a_from, .inl (cI, 8000, .inl (xF fr))), (a_value, .inl (cZ, 430, .inl (bF va)))] ++ va_pl L (gE cO G)) sz)) 0 0 (va_A ([(qz, .inr (0, [d0, d1, d2, d3, .ref qd])), (qd, .inr (9, [.ref ct, f1, .ref a_from, .int (nI nb), f4, f5, f6, f7, f8, f9, .ref a_value, f11, f12, f13, f14, f15, f16, f17, f18])), (a_from, .inl (cI, 8000, .inl (xF fr))), (a_value, .inl (cZ, 430, .inl (bF va)))] ++ va_pl L (gE cO G)) sz) := by
  refine Met.ofW (cc := b_Desk_pin) (maxL := 2) (ret := (some ClassFile.FieldType.int)) (by decide) rfl ?_
  intro p e s m args below meth c s₁ B hml hv
  obtain ⟨rfl, ⟨hsz, hP, hK, hD0, hF⟩, hE⟩ := hv
  have hx := B.exec
  have hb := B.bytes
  have hr := B.returns
  have hts := atoms_spec (ws := w_Desk_pin) B.pre
  have hts : ∀ w ∈ tb, w.before _ s = true := fun w h => hts w (List.mem_cons_of_mem _ h)
  have hown : s.vm.findClass R_Desk = some m.cls := findClass_of_methodNamed B.named
  have hlocks := B.notSynchronized
  subst hsz
  have hD := hD0.self (sz := s.heap.size)
  generalize hAe : va_A ([(qz, .inr (0, [d0, d1, d2, d3, .ref qd])), (qd, .inr (9, [.ref ct, f1, .ref a_from, .int (nI nb), f4, f5, f6, f7, f8, f9, .ref a_value, f11, f12, f13, f14, f15, f16, f17, f18])), (a_from, .inl (cI, 8000, .inl (xF fr))), (a_value, .inl (cZ, 430, .inl (bF va)))] ++ va_pl L (gE cO G)) s.heap.size = A at hD hF hE ⊢
  have hA : ∀ q : Nat, s.heap.size ≤ q → A q := fun q h => by rw [← hAe]; exact Or.inr h
  have hS : va_S A s.heap s.heap [] := va_S.rf
  have hP : va_P (dC, dI) cl ([(qz, .inr (0, [d0, d1, d2, d3, .ref qd])), (qd, .inr (9, [.ref ct, f1, .ref a_from, .int (nI nb), f4, f5, f6, f7, f8, f9, .ref a_value, f11, f12, f13, f14, f15, f16, f17, f18])), (a_from, .inl (cI, 8000, .inl (xF fr))), (a_value, .inl (cZ, 430, .inl (bF va)))] ++ va_pl L (gE cO G)) s.heap := hP
  have hl := lv_entry ([.ref qz, .int x]) (n := 2) (Nat.le_of_ble_eq_true rfl)
  rw [lg_entry_eq]
  generalize (lg_sl ([.ref qz, .int x]) ++ List.replicate (2 - (lg_sl ([.ref qz, .int x])).length) Slot.unset).toArray = ls at hl ⊢
  have hl : lv_has ls 2 [(0, .ref qz), (1, .int x)] := hl
  refine lv_aload_n hx hb d_Desk_pin_0 rfl (lv_at hl 0 rfl) ?_
  refine va_get (D := (dC, dI)) (ci := 0) (v := .ref qd) (C := R_Desk) (T := F_Desk) (N := 5) hx hb hts i_Desk hown hK hP 0 rfl rfl 4 (by decide) (hts _ k_436) (fun _ h9 => h9) rfl d_Desk_pin_1 ?_
  refine lv_iload_n hx hb d_Desk_pin_4 rfl (lv_at hl 1 rfl) ?_
  refine wd_i (cx := [(qd, .inr (9, [.ref ct, f1, .ref a_from, .int (nI nb), f4, f5, f6, f7, f8, f9, .ref a_value, f11, f12, f13, f14, f15, f16, f17, f18])), (a_from, .inl (cI, 8000, .inl (xF fr))), (a_value, .inl (cZ, 430, .inl (bF va)))]) (wr := [(qz, .inr (0, [d0, d1, d2, d3, .ref qd]))]) (pl := va_pl L (gE cO G)) (va_runV (As := [.int x]) (rest := []) ⟨hx, hb, hml, hown, hts⟩ (p_Board_outNumber l dC dI cB cI cL cZ cC cO ct pl ip nb xs fr va x t0 _ hL kct hip hpl hls hxs hix hnb hfr hfs hxw) (cwV 1 hts (good_V k_848 k_849 k_850 k_18 k_851) rfl rfl rfl (by decide +kernel) ⟨Nat.le_of_ble_eq_true rfl, Nat.le_of_ble_eq_true rfl⟩) (wd_preV (ci := 9) (r := (R_Board, F_Board, 19)) hK hP hD hS hA hF hE [1, 2, 3] (by decide) rfl rfl ⟨1, rfl⟩) rfl rfl hl.1 rfl (lv_room (Nat.le_of_ble_eq_true rfl)) d_Desk_pin_5 ⟨Nat.le_of_ble_eq_true rfl, Nat.le_of_ble_eq_true rfl⟩) hP hD hS hA [1, 2, 3] [0] rfl rfl (by decide) (by decide) (fun r_2 _ H locs w_1 hP hD hS => ?_)
  have hP : va_P (dC, dI) cl ([(qz, .inr (0, [d0, d1, d2, d3, .ref qd])), (qd, .inr (9, [.ref ct, f1, .ref a_from, .int (nI nb), f4, f5, f6, f7, f8, f9, .ref a_value, f11, f12, f13, f14, f15, f16, f17, f18])), (a_from, .inl (cI, 8000, .inl (xF fr))), (a_value, .inl (cZ, 430, .inl (bF va)))] ++ va_pl L (gE cO G)) H := hP
  have hD : va_D A ([(qz, .inr (0, [d0, d1, d2, d3, .ref qd])), (qd, .inr (9, [.ref ct, f1, .ref a_from, .int (nI nb), f4, f5, f6, f7, f8, f9, .ref a_value, f11, f12, f13, f14, f15, f16, f17, f18])), (a_from, .inl (cI, 8000, .inl (xF fr))), (a_value, .inl (cZ, 430, .inl (bF va)))] ++ va_pl L (gE cO G)) := hD
  subst w_1
  exact wr_i hx hb hr hlocks () rfl hK hP hD hS d_Desk_pin_8
set_option maxHeartbeats 4000000 in
set_option maxRecDepth 100000 in
/-- Desk_pin without a board -/
theorem c_Desk_pinN (l : Launch) (dC : Nat → ClassId) (dI : Nat → Nat → Nat) (cB cI cL cZ cC cO : ClassId) {qz : Nat}{d0 d1 d2 d3 : Value}{qd : Nat}{f1 f2 f3 f4 f5 f6 f7 f8 f9 f10 f11 f12 f13 f14 f15 f16 f17 f18 : Value} (x : Int32) (sz : Nat)  : Met l y_Desk_pin w_Desk_pin ({ frames := 1, cells := 0, slots := 0, locals := 30 }) (va_Pc [.ref qz, .int x] (wB (dC, dI) cl [(cB, .byte), (cI, .int), (cL, .long), (cZ, .boolean), (cC, .char), (cO, .object "java/lang/Object")] sz [(qz, .inr (0, [d0, d1, d2, d3, .ref qd])), (qd, .inr (9, [.null, f1, f2, f3, f4, f5, f6, f7, f8, f9, f10, f11, f12, f13, f14, f15, f16, f17, f18]))])) (va_Qi (fun (r : Int32) (u : Unit) => r = -1) (fun _ t => wA (dC, dI) cl [(cB, .byte), (cI, .int), (cL, .long), (cZ, .boolean), (cC, .char), (cO, .object "java/lang/Object")] (va_A [(qz, .inr (0, [d0, d1, d2, d3, .ref qd])), (qd, .inr (9, [.null, f1, f2, f3, f4, f5, f6, f7, f8, f9, f10, f11, f12, f13, f14, f15, f16, f17, f18]))] sz) [(qz, .inr (0, [d0, d1, d2, d3, .ref qd])), (qd, .inr (9, [.null, f1, f2, f3, f4, f5, f6, f7, f8, f9, f10, f11, f12, f13, f14, f15, f16, f17, f18]))] t) (va_A [(qz, .inr (0, [d0, d1, d2, d3, .ref qd])), (qd, .inr (9, [.null, f1, f2, f3, f4, f5, f6, f7, f8, f9, f10, f11, f12, f13, f14, f15, f16, f17, f18]))] sz)) 0 0 (va_A [(qz, .inr (0, [d0, d1, d2, d3, .ref qd])), (qd, .inr (9, [.null, f1, f2, f3, f4, f5, f6, f7, f8, f9, f10, f11, f12, f13, f14, f15, f16, f17, f18]))] sz) := by
  refine Met.ofW (cc := b_Desk_pin) (maxL := 2) (ret := (some ClassFile.FieldType.int)) (by decide) rfl ?_
  intro p e s m args below meth c s₁ B hml hv
  obtain ⟨rfl, hsz, hP, hK, hD0, hF⟩ := hv
  have hx := B.exec
  have hb := B.bytes
  have hr := B.returns
  have hts := atoms_spec (ws := w_Desk_pin) B.pre
  have hts : ∀ w ∈ tb, w.before _ s = true := fun w h => hts w (List.mem_cons_of_mem _ h)
  have hown : s.vm.findClass R_Desk = some m.cls := findClass_of_methodNamed B.named
  have hlocks := B.notSynchronized
  subst hsz
  have hD := hD0.self (sz := s.heap.size)
  generalize hAe : va_A [(qz, .inr (0, [d0, d1, d2, d3, .ref qd])), (qd, .inr (9, [.null, f1, f2, f3, f4, f5, f6, f7, f8, f9, f10, f11, f12, f13, f14, f15, f16, f17, f18]))] s.heap.size = A at hD hF ⊢
  have hA : ∀ q : Nat, s.heap.size ≤ q → A q := fun q h => by rw [← hAe]; exact Or.inr h
  have hS : va_S A s.heap s.heap [] := va_S.rf
  have hP : va_P (dC, dI) cl [(qz, .inr (0, [d0, d1, d2, d3, .ref qd])), (qd, .inr (9, [.null, f1, f2, f3, f4, f5, f6, f7, f8, f9, f10, f11, f12, f13, f14, f15, f16, f17, f18]))] s.heap := hP
  have hl := lv_entry ([.ref qz, .int x]) (n := 2) (Nat.le_of_ble_eq_true rfl)
  rw [lg_entry_eq]
  generalize (lg_sl ([.ref qz, .int x]) ++ List.replicate (2 - (lg_sl ([.ref qz, .int x])).length) Slot.unset).toArray = ls at hl ⊢
  have hl : lv_has ls 2 [(0, .ref qz), (1, .int x)] := hl
  refine lv_aload_n hx hb d_Desk_pin_0 rfl (lv_at hl 0 rfl) ?_
  refine va_get (D := (dC, dI)) (ci := 0) (v := .ref qd) (C := R_Desk) (T := F_Desk) (N := 5) hx hb hts i_Desk hown hK hP 0 rfl rfl 4 (by decide) (hts _ k_436) (fun _ h9 => h9) rfl d_Desk_pin_1 ?_
  refine lv_iload_n hx hb d_Desk_pin_4 rfl (lv_at hl 1 rfl) ?_
  refine wc_i (wc := [(qd, .inr (9, [.null, f1, f2, f3, f4, f5, f6, f7, f8, f9, f10, f11, f12, f13, f14, f15, f16, f17, f18]))]) (wr := [(qz, .inr (0, [d0, d1, d2, d3, .ref qd]))]) (va_runV (As := [.int x]) (rest := []) ⟨hx, hb, hml, hown, hts⟩ (c_Board_outNumberN l dC dI cB cI cL cZ cC cO x _ ) (cwV 1 hts (good_V k_848 k_849 k_850 k_18 k_851) rfl rfl rfl (by decide +kernel) ⟨Nat.le_of_ble_eq_true rfl, Nat.le_of_ble_eq_true rfl⟩) (wc_preV (k0 := 1) (ci := 9) (r := (R_Board, F_Board, 19)) hK hP hD hS hA hF [1] (by decide) rfl rfl rfl) rfl rfl hl.1 rfl (lv_room (Nat.le_of_ble_eq_true rfl)) d_Desk_pin_5 ⟨Nat.le_of_ble_eq_true rfl, Nat.le_of_ble_eq_true rfl⟩) hP hD hS hA [1] [0] rfl rfl (by decide) (by decide) (fun r_2 _ H locs w_1 hP hD hS => ?_)
  have hP : va_P (dC, dI) cl [(qz, .inr (0, [d0, d1, d2, d3, .ref qd])), (qd, .inr (9, [.null, f1, f2, f3, f4, f5, f6, f7, f8, f9, f10, f11, f12, f13, f14, f15, f16, f17, f18]))] H := hP
  have hD : va_D A [(qz, .inr (0, [d0, d1, d2, d3, .ref qd])), (qd, .inr (9, [.null, f1, f2, f3, f4, f5, f6, f7, f8, f9, f10, f11, f12, f13, f14, f15, f16, f17, f18]))] := hD
  subst w_1
  exact wr_i hx hb hr hlocks () rfl hK hP hD hS d_Desk_pin_8
theorem d_Desk_gates_0 : decode b_Desk_gates 0 = .ok (.aload_n 0, 1) := by decide +kernel
theorem d_Desk_gates_1 : decode b_Desk_gates 1 = .ok (.getfield 48, 3) := by decide +kernel
theorem d_Desk_gates_4 : decode b_Desk_gates 4 = .ok (.iload_n 1, 1) := by decide +kernel
theorem d_Desk_gates_5 : decode b_Desk_gates 5 = .ok (.invokevirtual 114, 3) := by decide +kernel
theorem d_Desk_gates_8 : decode b_Desk_gates 8 = .ok (.ireturn, 1) := by decide +kernel
set_option maxHeartbeats 4000000 in
set_option maxRecDepth 100000 in
/-- Desk_gates -/
theorem p_Desk_gates (l : Launch) (dC : Nat → ClassId) (dI : Nat → Nat → Nat) (cB cI cL cZ cC cO : ClassId) {qz : Nat}{d0 d1 d2 d3 : Value}{qd : Nat}{f2 f3 f4 f5 f6 f9 f10 f11 f13 f14 f15 f16 : Value} {L : List Nat} {G : PG} (ct pl ip cc ng nn dp tk on : Nat) (xs : List Nat) (x : Int32) (t0 sz : Nat) (hL : gL L G) (kct : G.1 ct = 6) (hip : G.2.1 ct 6 = ip) (hpl : G.2.2.2.2.2 ct 3 = some pl) (hls : LSx t0 G pl xs) (hxs : xs.length ≤ 16) (hix : ip ≤ xs.length) (hnn : nn ≤ ng) (hng : ng ≤ 300) : Met l y_Desk_gates w_Desk_gates ({ frames := 6, cells := 0, slots := 0, locals := 300 }) (va_Pc [.ref qz, .int x] (wB2 (dC, dI) cl [(cB, .byte), (cI, .int), (cL, .long), (cZ, .boolean), (cC, .char), (cO, .object "java/lang/Object")] sz t0 ([(qz, .inr (0, [d0, d1, d2, d3, .ref qd])), (qd, .inr (9, [.ref ct, .int (nI cc), f2, f3, f4, f5, f6, .int (nI ng), .int (nI nn), f9, f10, f11, .int (nI dp), f13, f14, f15, f16, .int (nI tk), .int (nI on)]))] ++ va_pl L (gE cO G)))) (va_Qi (fun (r : Int32) (u : Unit) => r = (if ¬ x < 0 ∧ x ≤ nI 7 then nI (gsel nn ng ip (xs.length - ip) cc tk (on, dp) x.toNatClampNeg) else -1)) (fun _ t => wA (dC, dI) cl [(cB, .byte), (cI, .int), (cL, .long), (cZ, .boolean), (cC, .char), (cO, .object "java/lang/Object")] (va_A ([(qz, .inr (0, [d0, d1, d2, d3, .ref qd])), (qd, .inr (9, [.ref ct, .int (nI cc), f2, f3, f4, f5, f6, .int (nI ng), .int (nI nn), f9, f10, f11, .int (nI dp), f13, f14, f15, f16, .int (nI tk), .int (nI on)]))] ++ va_pl L (gE cO G)) sz) ([(qz, .inr (0, [d0, d1, d2, d3, .ref qd])), (qd, .inr (9, [.ref ct, .int (nI cc), f2, f3, f4, f5, f6, .int (nI ng), .int (nI nn), f9, f10, f11, .int (nI dp), f13, f14, f15, f16, .int (nI tk), .int (nI on)]))] ++ va_pl L (gE cO G)) t) (va_A ([(qz, .inr (0, [d0, d1, d2, d3, .ref qd])), (qd, .inr (9, [.ref ct, .int (nI cc), f2, f3, f4, f5, f6, .int (nI ng), .int (nI nn), f9, f10, f11, .int (nI dp), f13, f14, f15, f16, .int (nI tk), .int (nI on)]))] ++ va_pl L (gE cO G)) sz)) 0 0 (va_A ([(qz, .inr (0, [d0, d1, d2, d3, .ref qd])), (qd, .inr (9, [.ref ct, .int (nI cc), f2, f3, f4, f5, f6, .int (nI ng), .int (nI nn), f9, f10, f11, .int (nI dp), f13, f14, f15, f16, .int (nI tk), .int (nI on)]))] ++ va_pl L (gE cO G)) sz) := by
  refine Met.ofW (cc := b_Desk_gates) (maxL := 2) (ret := (some ClassFile.FieldType.int)) (by decide) rfl ?_
  intro p e s m args below meth c s₁ B hml hv
  obtain ⟨rfl, ⟨hsz, hP, hK, hD0, hF⟩, hE⟩ := hv
  have hx := B.exec
  have hb := B.bytes
  have hr := B.returns
  have hts := atoms_spec (ws := w_Desk_gates) B.pre
  have hts : ∀ w ∈ tb, w.before _ s = true := fun w h => hts w (List.mem_cons_of_mem _ h)
  have hown : s.vm.findClass R_Desk = some m.cls := findClass_of_methodNamed B.named
  have hlocks := B.notSynchronized
  subst hsz
  have hD := hD0.self (sz := s.heap.size)
  generalize hAe : va_A ([(qz, .inr (0, [d0, d1, d2, d3, .ref qd])), (qd, .inr (9, [.ref ct, .int (nI cc), f2, f3, f4, f5, f6, .int (nI ng), .int (nI nn), f9, f10, f11, .int (nI dp), f13, f14, f15, f16, .int (nI tk), .int (nI on)]))] ++ va_pl L (gE cO G)) s.heap.size = A at hD hF hE ⊢
  have hA : ∀ q : Nat, s.heap.size ≤ q → A q := fun q h => by rw [← hAe]; exact Or.inr h
  have hS : va_S A s.heap s.heap [] := va_S.rf
  have hP : va_P (dC, dI) cl ([(qz, .inr (0, [d0, d1, d2, d3, .ref qd])), (qd, .inr (9, [.ref ct, .int (nI cc), f2, f3, f4, f5, f6, .int (nI ng), .int (nI nn), f9, f10, f11, .int (nI dp), f13, f14, f15, f16, .int (nI tk), .int (nI on)]))] ++ va_pl L (gE cO G)) s.heap := hP
  have hl := lv_entry ([.ref qz, .int x]) (n := 2) (Nat.le_of_ble_eq_true rfl)
  rw [lg_entry_eq]
  generalize (lg_sl ([.ref qz, .int x]) ++ List.replicate (2 - (lg_sl ([.ref qz, .int x])).length) Slot.unset).toArray = ls at hl ⊢
  have hl : lv_has ls 2 [(0, .ref qz), (1, .int x)] := hl
  refine lv_aload_n hx hb d_Desk_gates_0 rfl (lv_at hl 0 rfl) ?_
  refine va_get (D := (dC, dI)) (ci := 0) (v := .ref qd) (C := R_Desk) (T := F_Desk) (N := 5) hx hb hts i_Desk hown hK hP 0 rfl rfl 4 (by decide) (hts _ k_436) (fun _ h9 => h9) rfl d_Desk_gates_1 ?_
  refine lv_iload_n hx hb d_Desk_gates_4 rfl (lv_at hl 1 rfl) ?_
  refine wd_i (cx := [(qd, .inr (9, [.ref ct, .int (nI cc), f2, f3, f4, f5, f6, .int (nI ng), .int (nI nn), f9, f10, f11, .int (nI dp), f13, f14, f15, f16, .int (nI tk), .int (nI on)]))]) (wr := [(qz, .inr (0, [d0, d1, d2, d3, .ref qd]))]) (pl := va_pl L (gE cO G)) (va_runV (As := [.int x]) (rest := []) ⟨hx, hb, hml, hown, hts⟩ (p_Board_count l dC dI cB cI cL cZ cC cO ct pl ip cc ng nn dp tk on xs x t0 _ hL kct hip hpl hls hxs hix hnn hng) (cwV 1 hts (good_V k_864 k_865 k_866 k_18 k_867) rfl rfl rfl (by decide +kernel) ⟨Nat.le_of_ble_eq_true rfl, Nat.le_of_ble_eq_true rfl⟩) (wd_preV (ci := 9) (r := (R_Board, F_Board, 19)) hK hP hD hS hA hF hE [1] (by decide) rfl rfl ⟨1, rfl⟩) rfl rfl hl.1 rfl (lv_room (Nat.le_of_ble_eq_true rfl)) d_Desk_gates_5 ⟨Nat.le_of_ble_eq_true rfl, Nat.le_of_ble_eq_true rfl⟩) hP hD hS hA [1] [0] rfl rfl (by decide) (by decide) (fun r_2 _ H locs w_1 hP hD hS => ?_)
  have hP : va_P (dC, dI) cl ([(qz, .inr (0, [d0, d1, d2, d3, .ref qd])), (qd, .inr (9, [.ref ct, .int (nI cc), f2, f3, f4, f5, f6, .int (nI ng), .int (nI nn), f9, f10, f11, .int (nI dp), f13, f14, f15, f16, .int (nI tk), .int (nI on)]))] ++ va_pl L (gE cO G)) H := hP
  have hD : va_D A ([(qz, .inr (0, [d0, d1, d2, d3, .ref qd])), (qd, .inr (9, [.ref ct, .int (nI cc), f2, f3, f4, f5, f6, .int (nI ng), .int (nI nn), f9, f10, f11, .int (nI dp), f13, f14, f15, f16, .int (nI tk), .int (nI on)]))] ++ va_pl L (gE cO G)) := hD
  subst w_1
  exact wr_i hx hb hr hlocks () rfl hK hP hD hS d_Desk_gates_8
set_option maxHeartbeats 4000000 in
set_option maxRecDepth 100000 in
/-- Desk_gates without a board -/
theorem c_Desk_gatesN (l : Launch) (dC : Nat → ClassId) (dI : Nat → Nat → Nat) (cB cI cL cZ cC cO : ClassId) {qz : Nat}{d0 d1 d2 d3 : Value}{qd : Nat}{f1 f2 f3 f4 f5 f6 f7 f8 f9 f10 f11 f12 f13 f14 f15 f16 f17 f18 : Value} (x : Int32) (sz : Nat)  : Met l y_Desk_gates w_Desk_gates ({ frames := 1, cells := 0, slots := 0, locals := 30 }) (va_Pc [.ref qz, .int x] (wB (dC, dI) cl [(cB, .byte), (cI, .int), (cL, .long), (cZ, .boolean), (cC, .char), (cO, .object "java/lang/Object")] sz [(qz, .inr (0, [d0, d1, d2, d3, .ref qd])), (qd, .inr (9, [.null, f1, f2, f3, f4, f5, f6, f7, f8, f9, f10, f11, f12, f13, f14, f15, f16, f17, f18]))])) (va_Qi (fun (r : Int32) (u : Unit) => r = -1) (fun _ t => wA (dC, dI) cl [(cB, .byte), (cI, .int), (cL, .long), (cZ, .boolean), (cC, .char), (cO, .object "java/lang/Object")] (va_A [(qz, .inr (0, [d0, d1, d2, d3, .ref qd])), (qd, .inr (9, [.null, f1, f2, f3, f4, f5, f6, f7, f8, f9, f10, f11, f12, f13, f14, f15, f16, f17, f18]))] sz) [(qz, .inr (0, [d0, d1, d2, d3, .ref qd])), (qd, .inr (9, [.null, f1, f2, f3, f4, f5, f6, f7, f8, f9, f10, f11, f12, f13, f14, f15, f16, f17, f18]))] t) (va_A [(qz, .inr (0, [d0, d1, d2, d3, .ref qd])), (qd, .inr (9, [.null, f1, f2, f3, f4, f5, f6, f7, f8, f9, f10, f11, f12, f13, f14, f15, f16, f17, f18]))] sz)) 0 0 (va_A [(qz, .inr (0, [d0, d1, d2, d3, .ref qd])), (qd, .inr (9, [.null, f1, f2, f3, f4, f5, f6, f7, f8, f9, f10, f11, f12, f13, f14, f15, f16, f17, f18]))] sz) := by
  refine Met.ofW (cc := b_Desk_gates) (maxL := 2) (ret := (some ClassFile.FieldType.int)) (by decide) rfl ?_
  intro p e s m args below meth c s₁ B hml hv
  obtain ⟨rfl, hsz, hP, hK, hD0, hF⟩ := hv
  have hx := B.exec
  have hb := B.bytes
  have hr := B.returns
  have hts := atoms_spec (ws := w_Desk_gates) B.pre
  have hts : ∀ w ∈ tb, w.before _ s = true := fun w h => hts w (List.mem_cons_of_mem _ h)
  have hown : s.vm.findClass R_Desk = some m.cls := findClass_of_methodNamed B.named
  have hlocks := B.notSynchronized
  subst hsz
  have hD := hD0.self (sz := s.heap.size)
  generalize hAe : va_A [(qz, .inr (0, [d0, d1, d2, d3, .ref qd])), (qd, .inr (9, [.null, f1, f2, f3, f4, f5, f6, f7, f8, f9, f10, f11, f12, f13, f14, f15, f16, f17, f18]))] s.heap.size = A at hD hF ⊢
  have hA : ∀ q : Nat, s.heap.size ≤ q → A q := fun q h => by rw [← hAe]; exact Or.inr h
  have hS : va_S A s.heap s.heap [] := va_S.rf
  have hP : va_P (dC, dI) cl [(qz, .inr (0, [d0, d1, d2, d3, .ref qd])), (qd, .inr (9, [.null, f1, f2, f3, f4, f5, f6, f7, f8, f9, f10, f11, f12, f13, f14, f15, f16, f17, f18]))] s.heap := hP
  have hl := lv_entry ([.ref qz, .int x]) (n := 2) (Nat.le_of_ble_eq_true rfl)
  rw [lg_entry_eq]
  generalize (lg_sl ([.ref qz, .int x]) ++ List.replicate (2 - (lg_sl ([.ref qz, .int x])).length) Slot.unset).toArray = ls at hl ⊢
  have hl : lv_has ls 2 [(0, .ref qz), (1, .int x)] := hl
  refine lv_aload_n hx hb d_Desk_gates_0 rfl (lv_at hl 0 rfl) ?_
  refine va_get (D := (dC, dI)) (ci := 0) (v := .ref qd) (C := R_Desk) (T := F_Desk) (N := 5) hx hb hts i_Desk hown hK hP 0 rfl rfl 4 (by decide) (hts _ k_436) (fun _ h9 => h9) rfl d_Desk_gates_1 ?_
  refine lv_iload_n hx hb d_Desk_gates_4 rfl (lv_at hl 1 rfl) ?_
  refine wc_i (wc := [(qd, .inr (9, [.null, f1, f2, f3, f4, f5, f6, f7, f8, f9, f10, f11, f12, f13, f14, f15, f16, f17, f18]))]) (wr := [(qz, .inr (0, [d0, d1, d2, d3, .ref qd]))]) (va_runV (As := [.int x]) (rest := []) ⟨hx, hb, hml, hown, hts⟩ (c_Board_countN l dC dI cB cI cL cZ cC cO x _ ) (cwV 1 hts (good_V k_864 k_865 k_866 k_18 k_867) rfl rfl rfl (by decide +kernel) ⟨Nat.le_of_ble_eq_true rfl, Nat.le_of_ble_eq_true rfl⟩) (wc_preV (k0 := 1) (ci := 9) (r := (R_Board, F_Board, 19)) hK hP hD hS hA hF [1] (by decide) rfl rfl rfl) rfl rfl hl.1 rfl (lv_room (Nat.le_of_ble_eq_true rfl)) d_Desk_gates_5 ⟨Nat.le_of_ble_eq_true rfl, Nat.le_of_ble_eq_true rfl⟩) hP hD hS hA [1] [0] rfl rfl (by decide) (by decide) (fun r_2 _ H locs w_1 hP hD hS => ?_)
  have hP : va_P (dC, dI) cl [(qz, .inr (0, [d0, d1, d2, d3, .ref qd])), (qd, .inr (9, [.null, f1, f2, f3, f4, f5, f6, f7, f8, f9, f10, f11, f12, f13, f14, f15, f16, f17, f18]))] H := hP
  have hD : va_D A [(qz, .inr (0, [d0, d1, d2, d3, .ref qd])), (qd, .inr (9, [.null, f1, f2, f3, f4, f5, f6, f7, f8, f9, f10, f11, f12, f13, f14, f15, f16, f17, f18]))] := hD
  subst w_1
  exact wr_i hx hb hr hlocks () rfl hK hP hD hS d_Desk_gates_8
theorem d_Desk_tick_0 : decode b_Desk_tick 0 = .ok (.aload_n 0, 1) := by decide +kernel
theorem d_Desk_tick_1 : decode b_Desk_tick 1 = .ok (.getfield 48, 3) := by decide +kernel
theorem d_Desk_tick_4 : decode b_Desk_tick 4 = .ok (.invokevirtual 111, 3) := by decide +kernel
theorem d_Desk_tick_7 : decode b_Desk_tick 7 = .ok (.ireturn, 1) := by decide +kernel
set_option maxHeartbeats 4000000 in
set_option maxRecDepth 100000 in
/-- tick() -/
theorem c_Desk_tick (l : Launch) (dC : Nat → ClassId) (dI : Nat → Nat → Nat) (cB cI cL cZ cC cO : ClassId) {qz : Nat}{d0 d1 d2 d3 : Value}{qd qc a_isDff a_firstIn a_secondIn a_value a_order a_next : Nat}{f1 f2 f3 f8 f11 f12 f15 : Value} {f18 : Value} (fi si od : Nat → Nat) (isd va nx : Nat → Bool) (fg no ng tc : Nat) (sz : Nat) (hng : ng ≤ 300) (hno : no ≤ 300) (hgd : ∀ i, i < no → od i < 300 ∧ fi (od i) < 430 ∧ si (od i) < 430) (hfn : ∀ g, g < ng → fi g < 430) (hfg : fg ≤ 130) : Met l y_Desk_tick w_Desk_tick ({ frames := 4, cells := 0, slots := 0, locals := 120 }) (va_Pc [.ref qz] (wB (dC, dI) cl [(cB, .byte), (cI, .int), (cL, .long), (cZ, .boolean), (cC, .char), (cO, .object "java/lang/Object")] sz [(qz, .inr (0, [d0, d1, d2, d3, .ref qd])), (qd, .inr (9, [.ref qc, f1, f2, f3, .ref a_isDff, .ref a_firstIn, .ref a_secondIn, .int (nI ng), f8, .int (nI fg), .ref a_value, f11, f12, .ref a_order, .int (nI no), f15, .ref a_next, .int (nI tc), f18])), (a_isDff, .inl (cZ, 300, .inl (bF isd))), (a_firstIn, .inl (cI, 300, .inl (nF fi))), (a_secondIn, .inl (cI, 300, .inl (nF si))), (a_value, .inl (cZ, 430, .inl (bF va))), (a_order, .inl (cI, 300, .inl (nF od))), (a_next, .inl (cZ, 300, .inl (bF nx)))])) (va_Qi (fun (r : Int32) (u : ((Nat → Bool) × Nat) × (Nat → Bool)) => r = nI (bd_tk isd (bd_nx fi va ng 0 nx) fg ng 0 (va, 0)).2 ∧ u = ((bd_set od fi si fg no 0 ((bd_tk isd (bd_nx fi va ng 0 nx) fg ng 0 (va, 0)).1, 0)), (bd_nx fi va ng 0 nx))) (fun u t => wA (dC, dI) cl [(cB, .byte), (cI, .int), (cL, .long), (cZ, .boolean), (cC, .char), (cO, .object "java/lang/Object")] (va_A [(qz, .inr (0, [d0, d1, d2, d3, .ref qd])), (qd, .inr (9, [.ref qc, f1, f2, f3, .ref a_isDff, .ref a_firstIn, .ref a_secondIn, .int (nI ng), f8, .int (nI fg), .ref a_value, f11, f12, .ref a_order, .int (nI no), f15, .ref a_next, .int (nI tc), f18])), (a_isDff, .inl (cZ, 300, .inl (bF isd))), (a_firstIn, .inl (cI, 300, .inl (nF fi))), (a_secondIn, .inl (cI, 300, .inl (nF si))), (a_value, .inl (cZ, 430, .inl (bF va))), (a_order, .inl (cI, 300, .inl (nF od))), (a_next, .inl (cZ, 300, .inl (bF nx)))] sz) [(qz, .inr (0, [d0, d1, d2, d3, .ref qd])), (qd, .inr (9, [.ref qc, f1, f2, f3, .ref a_isDff, .ref a_firstIn, .ref a_secondIn, .int (nI ng), f8, .int (nI fg), .ref a_value, f11, f12, .ref a_order, .int (nI no), f15, .ref a_next, .int (nI (tc + 1)), .int (nI u.1.2)])), (a_isDff, .inl (cZ, 300, .inl (bF isd))), (a_firstIn, .inl (cI, 300, .inl (nF fi))), (a_secondIn, .inl (cI, 300, .inl (nF si))), (a_value, .inl (cZ, 430, .inl (bF u.1.1))), (a_order, .inl (cI, 300, .inl (nF od))), (a_next, .inl (cZ, 300, .inl (bF u.2)))] t) (va_A [(qz, .inr (0, [d0, d1, d2, d3, .ref qd])), (qd, .inr (9, [.ref qc, f1, f2, f3, .ref a_isDff, .ref a_firstIn, .ref a_secondIn, .int (nI ng), f8, .int (nI fg), .ref a_value, f11, f12, .ref a_order, .int (nI no), f15, .ref a_next, .int (nI tc), f18])), (a_isDff, .inl (cZ, 300, .inl (bF isd))), (a_firstIn, .inl (cI, 300, .inl (nF fi))), (a_secondIn, .inl (cI, 300, .inl (nF si))), (a_value, .inl (cZ, 430, .inl (bF va))), (a_order, .inl (cI, 300, .inl (nF od))), (a_next, .inl (cZ, 300, .inl (bF nx)))] sz)) 0 0 (va_A [(qz, .inr (0, [d0, d1, d2, d3, .ref qd])), (qd, .inr (9, [.ref qc, f1, f2, f3, .ref a_isDff, .ref a_firstIn, .ref a_secondIn, .int (nI ng), f8, .int (nI fg), .ref a_value, f11, f12, .ref a_order, .int (nI no), f15, .ref a_next, .int (nI tc), f18])), (a_isDff, .inl (cZ, 300, .inl (bF isd))), (a_firstIn, .inl (cI, 300, .inl (nF fi))), (a_secondIn, .inl (cI, 300, .inl (nF si))), (a_value, .inl (cZ, 430, .inl (bF va))), (a_order, .inl (cI, 300, .inl (nF od))), (a_next, .inl (cZ, 300, .inl (bF nx)))] sz) := by
  refine Met.ofW (cc := b_Desk_tick) (maxL := 1) (ret := (some ClassFile.FieldType.int)) (by decide) rfl ?_
  intro p e s m args below meth c s₁ B hml hv
  obtain ⟨rfl, hsz, hP, hK, hD0, hF⟩ := hv
  have hx := B.exec
  have hb := B.bytes
  have hr := B.returns
  have hts := atoms_spec (ws := w_Desk_tick) B.pre
  have hts : ∀ w ∈ tb, w.before _ s = true := fun w h => hts w (List.mem_cons_of_mem _ h)
  have hown : s.vm.findClass R_Desk = some m.cls := findClass_of_methodNamed B.named
  have hlocks := B.notSynchronized
  subst hsz
  have hD := hD0.self (sz := s.heap.size)
  generalize hAe : va_A [(qz, .inr (0, [d0, d1, d2, d3, .ref qd])), (qd, .inr (9, [.ref qc, f1, f2, f3, .ref a_isDff, .ref a_firstIn, .ref a_secondIn, .int (nI ng), f8, .int (nI fg), .ref a_value, f11, f12, .ref a_order, .int (nI no), f15, .ref a_next, .int (nI tc), f18])), (a_isDff, .inl (cZ, 300, .inl (bF isd))), (a_firstIn, .inl (cI, 300, .inl (nF fi))), (a_secondIn, .inl (cI, 300, .inl (nF si))), (a_value, .inl (cZ, 430, .inl (bF va))), (a_order, .inl (cI, 300, .inl (nF od))), (a_next, .inl (cZ, 300, .inl (bF nx)))] s.heap.size = A at hD hF ⊢
  have hA : ∀ q : Nat, s.heap.size ≤ q → A q := fun q h => by rw [← hAe]; exact Or.inr h
  have hS : va_S A s.heap s.heap [] := va_S.rf
  have hP : va_P (dC, dI) cl [(qz, .inr (0, [d0, d1, d2, d3, .ref qd])), (qd, .inr (9, [.ref qc, f1, f2, f3, .ref a_isDff, .ref a_firstIn, .ref a_secondIn, .int (nI ng), f8, .int (nI fg), .ref a_value, f11, f12, .ref a_order, .int (nI no), f15, .ref a_next, .int (nI tc), f18])), (a_isDff, .inl (cZ, 300, .inl (bF isd))), (a_firstIn, .inl (cI, 300, .inl (nF fi))), (a_secondIn, .inl (cI, 300, .inl (nF si))), (a_value, .inl (cZ, 430, .inl (bF va))), (a_order, .inl (cI, 300, .inl (nF od))), (a_next, .inl (cZ, 300, .inl (bF nx)))] s.heap := hP
  have hl := lv_entry ([.ref qz]) (n := 1) (Nat.le_of_ble_eq_true rfl)
  rw [lg_entry_eq]
  generalize (lg_sl ([.ref qz]) ++ List.replicate (1 - (lg_sl ([.ref qz])).length) Slot.unset).toArray = ls at hl ⊢
  have hl : lv_has ls 1 [(0, .ref qz)] := hl
  refine lv_aload_n hx hb d_Desk_tick_0 rfl (lv_at hl 0 rfl) ?_
  refine va_get (D := (dC, dI)) (ci := 0) (v := .ref qd) (C := R_Desk) (T := F_Desk) (N := 5) hx hb hts i_Desk hown hK hP 0 rfl rfl 4 (by decide) (hts _ k_436) (fun _ h9 => h9) rfl d_Desk_tick_1 ?_
  refine wc_i (wc := [(qd, .inr (9, [.ref qc, f1, f2, f3, .ref a_isDff, .ref a_firstIn, .ref a_secondIn, .int (nI ng), f8, .int (nI fg), .ref a_value, f11, f12, .ref a_order, .int (nI no), f15, .ref a_next, .int (nI tc), f18])), (a_isDff, .inl (cZ, 300, .inl (bF isd))), (a_firstIn, .inl (cI, 300, .inl (nF fi))), (a_secondIn, .inl (cI, 300, .inl (nF si))), (a_value, .inl (cZ, 430, .inl (bF va))), (a_order, .inl (cI, 300, .inl (nF od))), (a_next, .inl (cZ, 300, .inl (bF nx)))]) (wr := [(qz, .inr (0, [d0, d1, d2, d3, .ref qd]))]) (va_runV (As := []) (rest := []) ⟨hx, hb, hml, hown, hts⟩ (c_Board_stepW l dC dI cB cI cL cZ cC cO fi si od isd va nx fg no ng tc _ hng hno hgd hfn hfg) (cwV 0 hts (good_V k_856 k_857 k_858 k_18 k_859) rfl rfl rfl (by decide +kernel) ⟨Nat.le_of_ble_eq_true rfl, Nat.le_of_ble_eq_true rfl⟩) (wc_preV (k0 := 1) (ci := 9) (r := (R_Board, F_Board, 19)) hK hP hD hS hA hF [1, 2, 3, 4, 5, 6, 7] (by decide) rfl rfl rfl) rfl rfl hl.1 rfl (lv_room (Nat.le_of_ble_eq_true rfl)) d_Desk_tick_4 ⟨Nat.le_of_ble_eq_true rfl, Nat.le_of_ble_eq_true rfl⟩) hP hD hS hA [1, 2, 3, 4, 5, 6, 7] [0] rfl rfl (by decide) (by decide) (fun r_2 u H locs w_1 hP hD hS => ?_)
  have hP : va_P (dC, dI) cl [(qz, .inr (0, [d0, d1, d2, d3, .ref qd])), (qd, .inr (9, [.ref qc, f1, f2, f3, .ref a_isDff, .ref a_firstIn, .ref a_secondIn, .int (nI ng), f8, .int (nI fg), .ref a_value, f11, f12, .ref a_order, .int (nI no), f15, .ref a_next, .int (nI (tc + 1)), .int (nI u.1.2)])), (a_isDff, .inl (cZ, 300, .inl (bF isd))), (a_firstIn, .inl (cI, 300, .inl (nF fi))), (a_secondIn, .inl (cI, 300, .inl (nF si))), (a_value, .inl (cZ, 430, .inl (bF u.1.1))), (a_order, .inl (cI, 300, .inl (nF od))), (a_next, .inl (cZ, 300, .inl (bF u.2)))] H := hP
  have hD : va_D A [(qz, .inr (0, [d0, d1, d2, d3, .ref qd])), (qd, .inr (9, [.ref qc, f1, f2, f3, .ref a_isDff, .ref a_firstIn, .ref a_secondIn, .int (nI ng), f8, .int (nI fg), .ref a_value, f11, f12, .ref a_order, .int (nI no), f15, .ref a_next, .int (nI (tc + 1)), .int (nI u.1.2)])), (a_isDff, .inl (cZ, 300, .inl (bF isd))), (a_firstIn, .inl (cI, 300, .inl (nF fi))), (a_secondIn, .inl (cI, 300, .inl (nF si))), (a_value, .inl (cZ, 430, .inl (bF u.1.1))), (a_order, .inl (cI, 300, .inl (nF od))), (a_next, .inl (cZ, 300, .inl (bF u.2)))] := hD
  obtain ⟨r_2e, hu⟩ := w_1
  subst r_2e
  exact wr_i hx hb hr hlocks u ⟨rfl, hu⟩ hK hP hD hS d_Desk_tick_7
set_option maxHeartbeats 4000000 in
set_option maxRecDepth 100000 in
/-- Desk_tick without a board -/
theorem c_Desk_tickN (l : Launch) (dC : Nat → ClassId) (dI : Nat → Nat → Nat) (cB cI cL cZ cC cO : ClassId) {qz : Nat}{d0 d1 d2 d3 : Value}{qd : Nat}{f1 f2 f3 f4 f5 f6 f7 f8 f9 f10 f11 f12 f13 f14 f15 f16 f17 f18 : Value} (sz : Nat)  : Met l y_Desk_tick w_Desk_tick ({ frames := 1, cells := 0, slots := 0, locals := 30 }) (va_Pc [.ref qz] (wB (dC, dI) cl [(cB, .byte), (cI, .int), (cL, .long), (cZ, .boolean), (cC, .char), (cO, .object "java/lang/Object")] sz [(qz, .inr (0, [d0, d1, d2, d3, .ref qd])), (qd, .inr (9, [.null, f1, f2, f3, f4, f5, f6, f7, f8, f9, f10, f11, f12, f13, f14, f15, f16, f17, f18]))])) (va_Qi (fun (r : Int32) (u : Unit) => r = -1) (fun _ t => wA (dC, dI) cl [(cB, .byte), (cI, .int), (cL, .long), (cZ, .boolean), (cC, .char), (cO, .object "java/lang/Object")] (va_A [(qz, .inr (0, [d0, d1, d2, d3, .ref qd])), (qd, .inr (9, [.null, f1, f2, f3, f4, f5, f6, f7, f8, f9, f10, f11, f12, f13, f14, f15, f16, f17, f18]))] sz) [(qz, .inr (0, [d0, d1, d2, d3, .ref qd])), (qd, .inr (9, [.null, f1, f2, f3, f4, f5, f6, f7, f8, f9, f10, f11, f12, f13, f14, f15, f16, f17, f18]))] t) (va_A [(qz, .inr (0, [d0, d1, d2, d3, .ref qd])), (qd, .inr (9, [.null, f1, f2, f3, f4, f5, f6, f7, f8, f9, f10, f11, f12, f13, f14, f15, f16, f17, f18]))] sz)) 0 0 (va_A [(qz, .inr (0, [d0, d1, d2, d3, .ref qd])), (qd, .inr (9, [.null, f1, f2, f3, f4, f5, f6, f7, f8, f9, f10, f11, f12, f13, f14, f15, f16, f17, f18]))] sz) := by
  refine Met.ofW (cc := b_Desk_tick) (maxL := 1) (ret := (some ClassFile.FieldType.int)) (by decide) rfl ?_
  intro p e s m args below meth c s₁ B hml hv
  obtain ⟨rfl, hsz, hP, hK, hD0, hF⟩ := hv
  have hx := B.exec
  have hb := B.bytes
  have hr := B.returns
  have hts := atoms_spec (ws := w_Desk_tick) B.pre
  have hts : ∀ w ∈ tb, w.before _ s = true := fun w h => hts w (List.mem_cons_of_mem _ h)
  have hown : s.vm.findClass R_Desk = some m.cls := findClass_of_methodNamed B.named
  have hlocks := B.notSynchronized
  subst hsz
  have hD := hD0.self (sz := s.heap.size)
  generalize hAe : va_A [(qz, .inr (0, [d0, d1, d2, d3, .ref qd])), (qd, .inr (9, [.null, f1, f2, f3, f4, f5, f6, f7, f8, f9, f10, f11, f12, f13, f14, f15, f16, f17, f18]))] s.heap.size = A at hD hF ⊢
  have hA : ∀ q : Nat, s.heap.size ≤ q → A q := fun q h => by rw [← hAe]; exact Or.inr h
  have hS : va_S A s.heap s.heap [] := va_S.rf
  have hP : va_P (dC, dI) cl [(qz, .inr (0, [d0, d1, d2, d3, .ref qd])), (qd, .inr (9, [.null, f1, f2, f3, f4, f5, f6, f7, f8, f9, f10, f11, f12, f13, f14, f15, f16, f17, f18]))] s.heap := hP
  have hl := lv_entry ([.ref qz]) (n := 1) (Nat.le_of_ble_eq_true rfl)
  rw [lg_entry_eq]
  generalize (lg_sl ([.ref qz]) ++ List.replicate (1 - (lg_sl ([.ref qz])).length) Slot.unset).toArray = ls at hl ⊢
  have hl : lv_has ls 1 [(0, .ref qz)] := hl
  refine lv_aload_n hx hb d_Desk_tick_0 rfl (lv_at hl 0 rfl) ?_
  refine va_get (D := (dC, dI)) (ci := 0) (v := .ref qd) (C := R_Desk) (T := F_Desk) (N := 5) hx hb hts i_Desk hown hK hP 0 rfl rfl 4 (by decide) (hts _ k_436) (fun _ h9 => h9) rfl d_Desk_tick_1 ?_
  refine wc_i (wc := [(qd, .inr (9, [.null, f1, f2, f3, f4, f5, f6, f7, f8, f9, f10, f11, f12, f13, f14, f15, f16, f17, f18]))]) (wr := [(qz, .inr (0, [d0, d1, d2, d3, .ref qd]))]) (va_runV (As := []) (rest := []) ⟨hx, hb, hml, hown, hts⟩ (c_Board_stepN l dC dI cB cI cL cZ cC cO _ ) (cwV 0 hts (good_V k_856 k_857 k_858 k_18 k_859) rfl rfl rfl (by decide +kernel) ⟨Nat.le_of_ble_eq_true rfl, Nat.le_of_ble_eq_true rfl⟩) (wc_preV (k0 := 1) (ci := 9) (r := (R_Board, F_Board, 19)) hK hP hD hS hA hF [1] (by decide) rfl rfl rfl) rfl rfl hl.1 rfl (lv_room (Nat.le_of_ble_eq_true rfl)) d_Desk_tick_4 ⟨Nat.le_of_ble_eq_true rfl, Nat.le_of_ble_eq_true rfl⟩) hP hD hS hA [1] [0] rfl rfl (by decide) (by decide) (fun r_2 _ H locs w_1 hP hD hS => ?_)
  have hP : va_P (dC, dI) cl [(qz, .inr (0, [d0, d1, d2, d3, .ref qd])), (qd, .inr (9, [.null, f1, f2, f3, f4, f5, f6, f7, f8, f9, f10, f11, f12, f13, f14, f15, f16, f17, f18]))] H := hP
  have hD : va_D A [(qz, .inr (0, [d0, d1, d2, d3, .ref qd])), (qd, .inr (9, [.null, f1, f2, f3, f4, f5, f6, f7, f8, f9, f10, f11, f12, f13, f14, f15, f16, f17, f18]))] := hD
  subst w_1
  exact wr_i hx hb hr hlocks () rfl hK hP hD hS d_Desk_tick_7
