theorem d_Desk_put_0 : decode b_Desk_put 0 = .ok (.aload_n 0, 1) := by decide +kernel
theorem d_Desk_put_1 : decode b_Desk_put 1 = .ok (.getfield 10, 3) := by decide +kernel
theorem d_Desk_put_4 : decode b_Desk_put 4 = .ok (.lload_n 1, 1) := by decide +kernel
theorem d_Desk_put_5 : decode b_Desk_put 5 = .ok (.iload_n 3, 1) := by decide +kernel
theorem d_Desk_put_6 : decode b_Desk_put 6 = .ok (.invokevirtual 52, 3) := by decide +kernel
theorem d_Desk_put_9 : decode b_Desk_put 9 = .ok (.ireturn, 1) := by decide +kernel
set_option maxHeartbeats 4000000 in
set_option maxRecDepth 100000 in
/-- put(v, x) -/
theorem c_Desk_put (l : Launch) (dC : Nat → ClassId) (dI : Nat → Nat → Nat) (cB cI cL cZ cC cO : ClassId) (qx qt qb qk qp qn qh ql : Nat) {d1 d2 d3 d4 : Value} (fb : Nat → Int32) (n : Nat) (v : Int64) (x : Int32) (sz : Nat) (hn : n ≤ 2000) : Met l y_Desk_put w_Desk_put ({ frames := 1, cells := 0, slots := 0, locals := 30 }) (va_Pc [.ref qx, .long v, .int x] (wB (dC, dI) cl [(cB, .byte), (cI, .int), (cL, .long), (cZ, .boolean), (cC, .char), (cO, .object "java/lang/Object")] sz [(qx, .inr (0, [.ref qt, d1, d2, d3, d4])), (qt, .inr (1, [.ref qb, .int (nI n), .ref qk, .ref qp, .ref qn, .ref qh, .ref ql])), (qb, .inl (cB, 2000, .inl fb))])) (va_Qi (fun (r : Int32) (u : (Nat → Int32) × Nat) => r = bI (tx_ok n x) ∧ u = tx_put fb n v x) (fun u t => wA (dC, dI) cl [(cB, .byte), (cI, .int), (cL, .long), (cZ, .boolean), (cC, .char), (cO, .object "java/lang/Object")] (va_A [(qx, .inr (0, [.ref qt, d1, d2, d3, d4])), (qt, .inr (1, [.ref qb, .int (nI n), .ref qk, .ref qp, .ref qn, .ref qh, .ref ql])), (qb, .inl (cB, 2000, .inl fb))] sz) [(qx, .inr (0, [.ref qt, d1, d2, d3, d4])), (qt, .inr (1, [.ref qb, .int (nI u.2), .ref qk, .ref qp, .ref qn, .ref qh, .ref ql])), (qb, .inl (cB, 2000, .inl u.1))] t) (va_A [(qx, .inr (0, [.ref qt, d1, d2, d3, d4])), (qt, .inr (1, [.ref qb, .int (nI n), .ref qk, .ref qp, .ref qn, .ref qh, .ref ql])), (qb, .inl (cB, 2000, .inl fb))] sz)) 0 0 (va_A [(qx, .inr (0, [.ref qt, d1, d2, d3, d4])), (qt, .inr (1, [.ref qb, .int (nI n), .ref qk, .ref qp, .ref qn, .ref qh, .ref ql])), (qb, .inl (cB, 2000, .inl fb))] sz) := by
  refine Met.ofW (cc := b_Desk_put) (maxL := 4) (ret := (some ClassFile.FieldType.boolean)) (by decide) rfl ?_
  intro p e s m args below meth c s₁ B hml hv
  obtain ⟨rfl, hsz, hP, hK, hD0, hF⟩ := hv
  have hx := B.exec
  have hb := B.bytes
  have hr := B.returns
  have hts := atoms_spec (ws := w_Desk_put) B.pre
  have hts : ∀ w ∈ tb, w.before _ s = true := fun w h => hts w (List.mem_cons_of_mem _ h)
  have hown : s.vm.findClass R_Desk = some m.cls := findClass_of_methodNamed B.named
  have hlocks := B.notSynchronized
  subst hsz
  have hD := hD0.self (sz := s.heap.size)
  generalize hAe : va_A [(qx, .inr (0, [.ref qt, d1, d2, d3, d4])), (qt, .inr (1, [.ref qb, .int (nI n), .ref qk, .ref qp, .ref qn, .ref qh, .ref ql])), (qb, .inl (cB, 2000, .inl fb))] s.heap.size = A at hD hF ⊢
  have hA : ∀ q : Nat, s.heap.size ≤ q → A q := fun q h => by rw [← hAe]; exact Or.inr h
  have hS : va_S A s.heap s.heap [] := va_S.rf
  have hP : va_P (dC, dI) cl [(qx, .inr (0, [.ref qt, d1, d2, d3, d4])), (qt, .inr (1, [.ref qb, .int (nI n), .ref qk, .ref qp, .ref qn, .ref qh, .ref ql])), (qb, .inl (cB, 2000, .inl fb))] s.heap := hP
  have hl := lv_entry ([.ref qx, .long v, .int x]) (n := 4) (Nat.le_of_ble_eq_true rfl)
  rw [lg_entry_eq]
  generalize (lg_sl ([.ref qx, .long v, .int x]) ++ List.replicate (4 - (lg_sl ([.ref qx, .long v, .int x])).length) Slot.unset).toArray = ls at hl ⊢
  have hl : lv_has ls 4 [(0, .ref qx), (1, .long v), (3, .int x)] := hl
  refine lv_aload_n hx hb d_Desk_put_0 rfl (lv_at hl 0 rfl) ?_
  refine va_get (D := (dC, dI)) (ci := 0) (v := .ref qt) (C := R_Desk) (T := F_Desk) (N := 5) hx hb hts i_Desk hown hK hP 0 rfl rfl 0 (by decide) (hts _ k_432) (fun _ h9 => h9) rfl d_Desk_put_1 ?_
  refine lv_lload_n hx hb d_Desk_put_4 rfl (lv_at hl 1 rfl) ?_
  refine lv_iload_n hx hb d_Desk_put_5 rfl (lv_at hl 2 rfl) ?_
  refine wc_i (wc := [(qt, .inr (1, [.ref qb, .int (nI n), .ref qk, .ref qp, .ref qn, .ref qh, .ref ql])), (qb, .inl (cB, 2000, .inl fb))]) (wr := [(qx, .inr (0, [.ref qt, d1, d2, d3, d4]))]) (va_runV (As := [.long v, .int x]) (rest := []) ⟨hx, hb, hml, hown, hts⟩ (c_Text_append l dC dI cB cI cL cZ cC cO qt qb qk qp qn qh ql fb n v x _ hn) (cwV 2 hts (good_V k_452 k_453 k_454 k_2 k_455) rfl rfl rfl (by decide +kernel) ⟨Nat.le_of_ble_eq_true rfl, Nat.le_of_ble_eq_true rfl⟩) (wc_preV (k0 := 1) (ci := 1) (r := (R_Text, F_Text, 7)) hK hP hD hS hA hF [1, 2] (by decide) rfl rfl rfl) rfl rfl hl.1 rfl (lv_room (Nat.le_of_ble_eq_true rfl)) d_Desk_put_6 ⟨Nat.le_of_ble_eq_true rfl, Nat.le_of_ble_eq_true rfl⟩) hP hD hS hA [1, 2] [0] rfl rfl (by decide) (by decide) (fun r_2 u H locs w_1 hP hD hS => ?_)
  have hP : va_P (dC, dI) cl [(qx, .inr (0, [.ref qt, d1, d2, d3, d4])), (qt, .inr (1, [.ref qb, .int (nI u.2), .ref qk, .ref qp, .ref qn, .ref qh, .ref ql])), (qb, .inl (cB, 2000, .inl u.1))] H := hP
  have hD : va_D A [(qx, .inr (0, [.ref qt, d1, d2, d3, d4])), (qt, .inr (1, [.ref qb, .int (nI u.2), .ref qk, .ref qp, .ref qn, .ref qh, .ref ql])), (qb, .inl (cB, 2000, .inl u.1))] := hD
  obtain ⟨rfl, rfl⟩ := w_1
  have hP : va_P (dC, dI) cl [(qx, .inr (0, [.ref qt, d1, d2, d3, d4])), (qt, .inr (1, [.ref qb, .int (nI ((tx_put fb n v x).2)), .ref qk, .ref qp, .ref qn, .ref qh, .ref ql])), (qb, .inl (cB, 2000, .inl ((tx_put fb n v x).1)))] H := hP
  have hD : va_D A [(qx, .inr (0, [.ref qt, d1, d2, d3, d4])), (qt, .inr (1, [.ref qb, .int (nI ((tx_put fb n v x).2)), .ref qk, .ref qp, .ref qn, .ref qh, .ref ql])), (qb, .inl (cB, 2000, .inl ((tx_put fb n v x).1)))] := hD
  exact wr_z (x := tx_ok n x) hx hb hr hlocks (tx_put fb n v x) ⟨rfl, rfl⟩ hK hP hD hS d_Desk_put_9
theorem d_Desk_place_0 : decode b_Desk_place 0 = .ok (.aload_n 0, 1) := by decide +kernel
theorem d_Desk_place_1 : decode b_Desk_place 1 = .ok (.getfield 19, 3) := by decide +kernel
theorem d_Desk_place_4 : decode b_Desk_place 4 = .ok (.getfield 101, 3) := by decide +kernel
theorem d_Desk_place_7 : decode b_Desk_place 7 = .ok (.ireturn, 1) := by decide +kernel
set_option maxHeartbeats 4000000 in
set_option maxRecDepth 100000 in
/-- place() -/
theorem c_Desk_place (l : Launch) (dC : Nat → ClassId) (dI : Nat → Nat → Nat) (cB cI cL cZ cC cO : ClassId) (qx qf : Nat) {d0 d2 d3 d4 : Value} {v0 : Value} (y : Int32) (sz : Nat)  : Met l y_Desk_place w_Desk_place ({ frames := 0, cells := 0, slots := 0, locals := 0 }) (va_Pc [.ref qx] (wB (dC, dI) cl [(cB, .byte), (cI, .int), (cL, .long), (cZ, .boolean), (cC, .char), (cO, .object "java/lang/Object")] sz [(qx, .inr (0, [d0, .ref qf, d2, d3, d4])), (qf, .inr (2, [v0, .int y]))])) (va_Qi (fun (r : Int32) (u : Unit) => r = y) (fun _ t => wA (dC, dI) cl [(cB, .byte), (cI, .int), (cL, .long), (cZ, .boolean), (cC, .char), (cO, .object "java/lang/Object")] (va_A [(qx, .inr (0, [d0, .ref qf, d2, d3, d4])), (qf, .inr (2, [v0, .int y]))] sz) [(qx, .inr (0, [d0, .ref qf, d2, d3, d4])), (qf, .inr (2, [v0, .int y]))] t) (va_A [(qx, .inr (0, [d0, .ref qf, d2, d3, d4])), (qf, .inr (2, [v0, .int y]))] sz)) 0 0 (va_A [(qx, .inr (0, [d0, .ref qf, d2, d3, d4])), (qf, .inr (2, [v0, .int y]))] sz) := by
  refine Met.ofW (cc := b_Desk_place) (maxL := 1) (ret := (some ClassFile.FieldType.int)) (by decide) rfl ?_
  intro p e s m args below meth c s₁ B hml hv
  obtain ⟨rfl, hsz, hP, hK, hD0, hF⟩ := hv
  have hx := B.exec
  have hb := B.bytes
  have hr := B.returns
  have hts := atoms_spec (ws := w_Desk_place) B.pre
  have hts : ∀ w ∈ tb, w.before _ s = true := fun w h => hts w (List.mem_cons_of_mem _ h)
  have hown : s.vm.findClass R_Desk = some m.cls := findClass_of_methodNamed B.named
  have hlocks := B.notSynchronized
  subst hsz
  have hD := hD0.self (sz := s.heap.size)
  generalize hAe : va_A [(qx, .inr (0, [d0, .ref qf, d2, d3, d4])), (qf, .inr (2, [v0, .int y]))] s.heap.size = A at hD hF ⊢
  have hA : ∀ q : Nat, s.heap.size ≤ q → A q := fun q h => by rw [← hAe]; exact Or.inr h
  have hS : va_S A s.heap s.heap [] := va_S.rf
  have hP : va_P (dC, dI) cl [(qx, .inr (0, [d0, .ref qf, d2, d3, d4])), (qf, .inr (2, [v0, .int y]))] s.heap := hP
  have hl := lv_entry ([.ref qx]) (n := 1) (Nat.le_of_ble_eq_true rfl)
  rw [lg_entry_eq]
  generalize (lg_sl ([.ref qx]) ++ List.replicate (1 - (lg_sl ([.ref qx])).length) Slot.unset).toArray = ls at hl ⊢
  have hl : lv_has ls 1 [(0, .ref qx)] := hl
  refine lv_aload_n hx hb d_Desk_place_0 rfl (lv_at hl 0 rfl) ?_
  refine va_get (D := (dC, dI)) (ci := 0) (v := .ref qf) (C := R_Desk) (T := F_Desk) (N := 5) hx hb hts i_Desk hown hK hP 0 rfl rfl 1 (by decide) (hts _ k_433) (fun _ h9 => h9) rfl d_Desk_place_1 ?_
  refine va_get (D := (dC, dI)) (ci := 2) (v := .int y) (C := R_Fault) (T := F_Fault) (N := 2) hx hb hts i_Fault hown hK hP 1 rfl rfl 1 (by decide) (hts _ k_77) (fun _ h9 => h9) rfl d_Desk_place_4 ?_
  exact wr_i hx hb hr hlocks () rfl hK hP hD hS d_Desk_place_7
