theorem ty_eq {D : va_G} {cl : List vw_C} {tys : List (ClassId × FieldType)} {s : State} {cA cB : ClassId} {ty : FieldType} {k : Nat} (h : va_K D cl (tys ++ [(cA, ty)]) s) (hk : tys[k]? = some (cB, ty)) (hp : ∀ c, va_RA s c ty → s.vm.findClass ("[" ++ ty.toString) = some c) : cA = cB := by
  have hlt : k < tys.length := (List.getElem?_eq_some_iff.mp hk).1
  have h1 := hp _ (h.2 k (cB, ty) (by rw [List.getElem?_append_left hlt]; exact hk)).2
  have h2 := hp _ (h.2 tys.length (cA, ty) (by simp)).2
  exact Option.some.inj (h2.symm.trans h1)
theorem d_Fault_init_0 : decode b_Fault_init 0 = .ok (.aload_n 0, 1) := by decide +kernel
theorem d_Fault_init_1 : decode b_Fault_init 1 = .ok (.invokespecial 1, 3) := by decide +kernel
theorem d_Fault_init_4 : decode b_Fault_init 4 = .ok (.aload_n 0, 1) := by decide +kernel
theorem d_Fault_init_5 : decode b_Fault_init 5 = .ok (.iconst 0, 1) := by decide +kernel
theorem d_Fault_init_6 : decode b_Fault_init 6 = .ok (.putfield 9, 3) := by decide +kernel
theorem d_Fault_init_9 : decode b_Fault_init 9 = .ok (.aload_n 0, 1) := by decide +kernel
theorem d_Fault_init_10 : decode b_Fault_init 10 = .ok (.iconst (-1), 1) := by decide +kernel
theorem d_Fault_init_11 : decode b_Fault_init 11 = .ok (.putfield 13, 3) := by decide +kernel
theorem d_Fault_init_14 : decode b_Fault_init 14 = .ok (.return_, 1) := by decide +kernel
set_option maxHeartbeats 4000000 in
set_option maxRecDepth 100000 in
/-- Fault_init -/
theorem c_Fault_init (l : Launch) (dC : Nat → ClassId) (dI : Nat → Nat → Nat) (cB cI cL cZ cC cO : ClassId) (qf : Nat) {v0 v1 : Value} (sz : Nat)  : Met l y_Fault_init w_Fault_init ({ frames := 1, cells := 0, slots := 0, locals := 12 }) (va_Pc [.ref qf] (wB (dC, dI) cl [(cB, .byte), (cI, .int), (cL, .long), (cZ, .boolean), (cC, .char), (cO, .object "java/lang/Object")] sz [(qf, .inr (2, [v0, v1]))])) (va_Qv (fun (u : Unit) => True) (fun _ t => wA (dC, dI) cl [(cB, .byte), (cI, .int), (cL, .long), (cZ, .boolean), (cC, .char), (cO, .object "java/lang/Object")] (va_A [(qf, .inr (2, [v0, v1]))] sz) [(qf, .inr (2, [.int (nI 0), .int (-1)]))] t) (va_A [(qf, .inr (2, [v0, v1]))] sz)) 0 0 (va_A [(qf, .inr (2, [v0, v1]))] sz) := by
  refine Met.ofW (cc := b_Fault_init) (maxL := 1) (ret := none) (by decide) rfl ?_
  intro p e s m args below meth c s₁ B hml hv
  obtain ⟨rfl, hsz, hP, hK, hD0, hF⟩ := hv
  have hx := B.exec
  have hb := B.bytes
  have hr := B.returns
  have hts := atoms_spec (ws := w_Fault_init) B.pre
  have hts : ∀ w ∈ tb, w.before _ s = true := fun w h => hts w (List.mem_cons_of_mem _ h)
  have hown : s.vm.findClass R_Fault = some m.cls := findClass_of_methodNamed B.named
  have hlocks := B.notSynchronized
  have hin : meth.name = "<init>" := (name_of_methodNamed B.named B.method).1
  subst hsz
  have hD := hD0.self (sz := s.heap.size)
  generalize hAe : va_A [(qf, .inr (2, [v0, v1]))] s.heap.size = A at hD hF ⊢
  have hA : ∀ q : Nat, s.heap.size ≤ q → A q := fun q h => by rw [← hAe]; exact Or.inr h
  have hS : va_S A s.heap s.heap [] := va_S.rf
  have hP : va_P (dC, dI) cl [(qf, .inr (2, [v0, v1]))] s.heap := hP
  have hl := lv_entry ([.ref qf]) (n := 1) (Nat.le_of_ble_eq_true rfl)
  rw [lg_entry_eq]
  generalize (lg_sl ([.ref qf]) ++ List.replicate (1 - (lg_sl ([.ref qf])).length) Slot.unset).toArray = ls at hl ⊢
  have hl : lv_has ls 1 [(0, .ref qf)] := hl
  refine lv_aload_n hx hb d_Fault_init_0 rfl (lv_at hl 0 rfl) ?_
  refine W.objInit hx hb hown (hts _ k_73) (hts _ k_29) (hts _ k_30) rfl (by rw [hml]; exact hl.1) rfl d_Fault_init_1 (Nat.le_of_ble_eq_true rfl) (Nat.le_of_ble_eq_true rfl) ?_
  refine W.eq (g2 := F0 m 4 ls []) rfl ?_
  refine lv_aload_n hx hb d_Fault_init_4 rfl (lv_at hl 0 rfl) ?_
  refine lv_iconst (v := nI 0) hx hb d_Fault_init_5 (by decide) ?_
  refine va_put (D := (dC, dI)) (ci := 2) (v := .int (nI 0)) (ty := .int) (C := R_Fault) (T := F_Fault) (N := 2) hx hb hts i_Fault t_Fault t_Fault_ok n_Fault hown hK hP hD hS 0 rfl rfl 0 (by decide) (hts _ k_74) (fun _ h9 => h9) rfl (by decide +kernel) rfl rfl (Nat.le_of_ble_eq_true rfl) d_Fault_init_6 (fun H locs hP hD hS => ?_)
  have hP : va_P (dC, dI) cl [(qf, .inr (2, [.int (nI 0), v1]))] H := hP
  have hD : va_D A [(qf, .inr (2, [.int (nI 0), v1]))] := hD
  refine lv_aload_n hx hb d_Fault_init_9 rfl (lv_at hl 0 rfl) ?_
  refine lv_iconst (v := (-1)) hx hb d_Fault_init_10 (by decide) ?_
  refine va_put (D := (dC, dI)) (ci := 2) (v := .int (-1)) (ty := .int) (C := R_Fault) (T := F_Fault) (N := 2) hx hb hts i_Fault t_Fault t_Fault_ok n_Fault hown hK hP hD hS 0 rfl rfl 1 (by decide) (hts _ k_76) (fun _ h9 => h9) rfl (by decide +kernel) rfl rfl (Nat.le_of_ble_eq_true rfl) d_Fault_init_11 (fun H locs hP hD hS => ?_)
  have hP : va_P (dC, dI) cl [(qf, .inr (2, [.int (nI 0), .int (-1)]))] H := hP
  have hD : va_D A [(qf, .inr (2, [.int (nI 0), .int (-1)]))] := hD
  exact wr_v hx hb hr hlocks () trivial hK hP hD hS d_Fault_init_14
theorem d_Text_init_0 : decode b_Text_init 0 = .ok (.aload_n 0, 1) := by decide +kernel
theorem d_Text_init_1 : decode b_Text_init 1 = .ok (.invokespecial 1, 3) := by decide +kernel
theorem d_Text_init_4 : decode b_Text_init 4 = .ok (.aload_n 0, 1) := by decide +kernel
theorem d_Text_init_5 : decode b_Text_init 5 = .ok (.sipush 2000, 3) := by decide +kernel
theorem d_Text_init_8 : decode b_Text_init 8 = .ok (.newarray .byte, 2) := by decide +kernel
theorem d_Text_init_10 : decode b_Text_init 10 = .ok (.putfield 9, 3) := by decide +kernel
theorem d_Text_init_13 : decode b_Text_init 13 = .ok (.aload_n 0, 1) := by decide +kernel
theorem d_Text_init_14 : decode b_Text_init 14 = .ok (.iconst 0, 1) := by decide +kernel
theorem d_Text_init_15 : decode b_Text_init 15 = .ok (.putfield 13, 3) := by decide +kernel
theorem d_Text_init_18 : decode b_Text_init 18 = .ok (.aload_n 0, 1) := by decide +kernel
theorem d_Text_init_19 : decode b_Text_init 19 = .ok (.sipush 1001, 3) := by decide +kernel
theorem d_Text_init_22 : decode b_Text_init 22 = .ok (.newarray .int, 2) := by decide +kernel
theorem d_Text_init_24 : decode b_Text_init 24 = .ok (.putfield 17, 3) := by decide +kernel
theorem d_Text_init_27 : decode b_Text_init 27 = .ok (.aload_n 0, 1) := by decide +kernel
theorem d_Text_init_28 : decode b_Text_init 28 = .ok (.sipush 1001, 3) := by decide +kernel
theorem d_Text_init_31 : decode b_Text_init 31 = .ok (.newarray .int, 2) := by decide +kernel
theorem d_Text_init_33 : decode b_Text_init 33 = .ok (.putfield 21, 3) := by decide +kernel
theorem d_Text_init_36 : decode b_Text_init 36 = .ok (.aload_n 0, 1) := by decide +kernel
theorem d_Text_init_37 : decode b_Text_init 37 = .ok (.sipush 1001, 3) := by decide +kernel
theorem d_Text_init_40 : decode b_Text_init 40 = .ok (.newarray .int, 2) := by decide +kernel
theorem d_Text_init_42 : decode b_Text_init 42 = .ok (.putfield 24, 3) := by decide +kernel
theorem d_Text_init_45 : decode b_Text_init 45 = .ok (.aload_n 0, 1) := by decide +kernel
theorem d_Text_init_46 : decode b_Text_init 46 = .ok (.sipush 1001, 3) := by decide +kernel
theorem d_Text_init_49 : decode b_Text_init 49 = .ok (.newarray .long, 2) := by decide +kernel
theorem d_Text_init_51 : decode b_Text_init 51 = .ok (.putfield 27, 3) := by decide +kernel
theorem d_Text_init_54 : decode b_Text_init 54 = .ok (.aload_n 0, 1) := by decide +kernel
theorem d_Text_init_55 : decode b_Text_init 55 = .ok (.sipush 1001, 3) := by decide +kernel
theorem d_Text_init_58 : decode b_Text_init 58 = .ok (.newarray .long, 2) := by decide +kernel
theorem d_Text_init_60 : decode b_Text_init 60 = .ok (.putfield 31, 3) := by decide +kernel
theorem d_Text_init_63 : decode b_Text_init 63 = .ok (.return_, 1) := by decide +kernel
set_option maxHeartbeats 4000000 in
set_option maxRecDepth 100000 in
/-- Text_init -/
theorem c_Text_init (l : Launch) (dC : Nat → ClassId) (dI : Nat → Nat → Nat) (cB cI cL cZ cC cO : ClassId) (qt : Nat) {v0 v1 v2 v3 v4 v5 v6 : Value} (sz : Nat)  : Met l y_Text_init w_Text_init ({ frames := 1, cells := 6, slots := 7005, locals := 12 }) (va_Pc [.ref qt] (wB (dC, dI) cl [(cB, .byte), (cI, .int), (cL, .long), (cZ, .boolean), (cC, .char), (cO, .object "java/lang/Object")] sz [(qt, .inr (1, [v0, v1, v2, v3, v4, v5, v6]))])) (va_Qv (fun (u : Nat × Nat × Nat × Nat × Nat × Nat) => True) (fun u t => wA (dC, dI) cl [(cB, .byte), (cI, .int), (cL, .long), (cZ, .boolean), (cC, .char), (cO, .object "java/lang/Object")] (va_A [(qt, .inr (1, [v0, v1, v2, v3, v4, v5, v6]))] sz) [(qt, .inr (1, [.ref u.1, .int (nI 0), .ref u.2.1, .ref u.2.2.1, .ref u.2.2.2.1, .ref u.2.2.2.2.1, .ref u.2.2.2.2.2])), (u.1, .inl (cB, 2000, .inl (fun _ => 0))), (u.2.1, .inl (cI, 1001, .inl (fun _ => 0))), (u.2.2.1, .inl (cI, 1001, .inl (fun _ => 0))), (u.2.2.2.1, .inl (cI, 1001, .inl (fun _ => 0))), (u.2.2.2.2.1, .inl (cL, 1001, .inr (.inl (fun _ => 0)))), (u.2.2.2.2.2, .inl (cL, 1001, .inr (.inl (fun _ => 0))))] t) (va_A [(qt, .inr (1, [v0, v1, v2, v3, v4, v5, v6]))] sz)) 6 7005 (va_A [(qt, .inr (1, [v0, v1, v2, v3, v4, v5, v6]))] sz) := by
  refine Met.ofW (cc := b_Text_init) (maxL := 1) (ret := none) (by decide) rfl ?_
  intro p e s m args below meth c s₁ B hml hv
  obtain ⟨rfl, hsz, hP, hK, hD0, hF⟩ := hv
  have hx := B.exec
  have hb := B.bytes
  have hr := B.returns
  have hts := atoms_spec (ws := w_Text_init) B.pre
  have hts : ∀ w ∈ tb, w.before _ s = true := fun w h => hts w (List.mem_cons_of_mem _ h)
  have hown : s.vm.findClass R_Text = some m.cls := findClass_of_methodNamed B.named
  have hlocks := B.notSynchronized
  have hin : meth.name = "<init>" := (name_of_methodNamed B.named B.method).1
  subst hsz
  have hD := hD0.self (sz := s.heap.size)
  generalize hAe : va_A [(qt, .inr (1, [v0, v1, v2, v3, v4, v5, v6]))] s.heap.size = A at hD hF ⊢
  have hA : ∀ q : Nat, s.heap.size ≤ q → A q := fun q h => by rw [← hAe]; exact Or.inr h
  have hS : va_S A s.heap s.heap [] := va_S.rf
  have hP : va_P (dC, dI) cl [(qt, .inr (1, [v0, v1, v2, v3, v4, v5, v6]))] s.heap := hP
  have hl := lv_entry ([.ref qt]) (n := 1) (Nat.le_of_ble_eq_true rfl)
  rw [lg_entry_eq]
  generalize (lg_sl ([.ref qt]) ++ List.replicate (1 - (lg_sl ([.ref qt])).length) Slot.unset).toArray = ls at hl ⊢
  have hl : lv_has ls 1 [(0, .ref qt)] := hl
  refine lv_aload_n hx hb d_Text_init_0 rfl (lv_at hl 0 rfl) ?_
  refine W.objInit hx hb hown (hts _ k_36) (hts _ k_29) (hts _ k_30) rfl (by rw [hml]; exact hl.1) rfl d_Text_init_1 (Nat.le_of_ble_eq_true rfl) (Nat.le_of_ble_eq_true rfl) ?_
  refine W.eq (g2 := F0 m 4 ls []) rfl ?_
  refine lv_aload_n hx hb d_Text_init_4 rfl (lv_at hl 0 rfl) ?_
  refine lv_sipush (v := nI 2000) hx hb d_Text_init_5 (by decide) ?_
  refine va_newa (atype := .byte) (ty := .byte) (N' := 2000) (a0 := (2000, .inl (fun _ => 0))) hx hb (hts _ k_65) rfl hK hP hD hS hA (fun _ => rfl) (by decide) (by decide) (by decide) (Nat.le_of_ble_eq_true rfl) (Nat.le_of_ble_eq_true rfl) d_Text_init_8 (fun q_1 cA9 H hK9 hP hD hS => ?_)
  have hc9 : cB = cA9 := (ty_eq hK9 (k := 0) rfl (fun _ h9 => h9)).symm
  clear hK9
  subst hc9
  have hP : va_P (dC, dI) cl [(qt, .inr (1, [v0, v1, v2, v3, v4, v5, v6])), (q_1, .inl (cB, 2000, .inl (fun _ => 0)))] H := hP
  have hD : va_D A [(qt, .inr (1, [v0, v1, v2, v3, v4, v5, v6])), (q_1, .inl (cB, 2000, .inl (fun _ => 0)))] := hD
  refine va_putF (D := (dC, dI)) (ci := 1) (v := .ref q_1) (ty := .array (.byte)) (C := R_Text) (T := F_Text) (N := 7) hx hb hts i_Text t_Text t_Text_ok n_Text hown hK hP hD hS 0 rfl rfl 0 (by decide) (hts _ k_37) (fun _ h9 => h9) rfl hin rfl (by decide +kernel) rfl rfl (Nat.le_of_ble_eq_true rfl) d_Text_init_10 (fun H locs hP hD hS => ?_)
  have hP : va_P (dC, dI) cl [(qt, .inr (1, [.ref q_1, v1, v2, v3, v4, v5, v6])), (q_1, .inl (cB, 2000, .inl (fun _ => 0)))] H := hP
  have hD : va_D A [(qt, .inr (1, [.ref q_1, v1, v2, v3, v4, v5, v6])), (q_1, .inl (cB, 2000, .inl (fun _ => 0)))] := hD
  refine lv_aload_n hx hb d_Text_init_13 rfl (lv_at hl 0 rfl) ?_
  refine lv_iconst (v := nI 0) hx hb d_Text_init_14 (by decide) ?_
  refine va_put (D := (dC, dI)) (ci := 1) (v := .int (nI 0)) (ty := .int) (C := R_Text) (T := F_Text) (N := 7) hx hb hts i_Text t_Text t_Text_ok n_Text hown hK hP hD hS 0 rfl rfl 1 (by decide) (hts _ k_38) (fun _ h9 => h9) rfl (by decide +kernel) rfl rfl (Nat.le_of_ble_eq_true rfl) d_Text_init_15 (fun H locs hP hD hS => ?_)
  have hP : va_P (dC, dI) cl [(qt, .inr (1, [.ref q_1, .int (nI 0), v2, v3, v4, v5, v6])), (q_1, .inl (cB, 2000, .inl (fun _ => 0)))] H := hP
  have hD : va_D A [(qt, .inr (1, [.ref q_1, .int (nI 0), v2, v3, v4, v5, v6])), (q_1, .inl (cB, 2000, .inl (fun _ => 0)))] := hD
  refine lv_aload_n hx hb d_Text_init_18 rfl (lv_at hl 0 rfl) ?_
  refine lv_sipush (v := nI 1001) hx hb d_Text_init_19 (by decide) ?_
  refine va_newa (atype := .int) (ty := .int) (N' := 1001) (a0 := (1001, .inl (fun _ => 0))) hx hb (hts _ k_66) rfl hK hP hD hS hA (fun _ => rfl) (by decide) (by decide) (by decide) (Nat.le_of_ble_eq_true rfl) (Nat.le_of_ble_eq_true rfl) d_Text_init_22 (fun q_2 cA9 H hK9 hP hD hS => ?_)
  have hc9 : cI = cA9 := (ty_eq hK9 (k := 1) rfl (fun _ h9 => h9)).symm
  clear hK9
  subst hc9
  have hP : va_P (dC, dI) cl [(qt, .inr (1, [.ref q_1, .int (nI 0), v2, v3, v4, v5, v6])), (q_1, .inl (cB, 2000, .inl (fun _ => 0))), (q_2, .inl (cI, 1001, .inl (fun _ => 0)))] H := hP
  have hD : va_D A [(qt, .inr (1, [.ref q_1, .int (nI 0), v2, v3, v4, v5, v6])), (q_1, .inl (cB, 2000, .inl (fun _ => 0))), (q_2, .inl (cI, 1001, .inl (fun _ => 0)))] := hD
  refine va_putF (D := (dC, dI)) (ci := 1) (v := .ref q_2) (ty := .array (.int)) (C := R_Text) (T := F_Text) (N := 7) hx hb hts i_Text t_Text t_Text_ok n_Text hown hK hP hD hS 0 rfl rfl 2 (by decide) (hts _ k_40) (fun _ h9 => h9) rfl hin rfl (by decide +kernel) rfl rfl (Nat.le_of_ble_eq_true rfl) d_Text_init_24 (fun H locs hP hD hS => ?_)
  have hP : va_P (dC, dI) cl [(qt, .inr (1, [.ref q_1, .int (nI 0), .ref q_2, v3, v4, v5, v6])), (q_1, .inl (cB, 2000, .inl (fun _ => 0))), (q_2, .inl (cI, 1001, .inl (fun _ => 0)))] H := hP
  have hD : va_D A [(qt, .inr (1, [.ref q_1, .int (nI 0), .ref q_2, v3, v4, v5, v6])), (q_1, .inl (cB, 2000, .inl (fun _ => 0))), (q_2, .inl (cI, 1001, .inl (fun _ => 0)))] := hD
  refine lv_aload_n hx hb d_Text_init_27 rfl (lv_at hl 0 rfl) ?_
  refine lv_sipush (v := nI 1001) hx hb d_Text_init_28 (by decide) ?_
  refine va_newa (atype := .int) (ty := .int) (N' := 1001) (a0 := (1001, .inl (fun _ => 0))) hx hb (hts _ k_66) rfl hK hP hD hS hA (fun _ => rfl) (by decide) (by decide) (by decide) (Nat.le_of_ble_eq_true rfl) (Nat.le_of_ble_eq_true rfl) d_Text_init_31 (fun q_3 cA9 H hK9 hP hD hS => ?_)
  have hc9 : cI = cA9 := (ty_eq hK9 (k := 1) rfl (fun _ h9 => h9)).symm
  clear hK9
  subst hc9
  have hP : va_P (dC, dI) cl [(qt, .inr (1, [.ref q_1, .int (nI 0), .ref q_2, v3, v4, v5, v6])), (q_1, .inl (cB, 2000, .inl (fun _ => 0))), (q_2, .inl (cI, 1001, .inl (fun _ => 0))), (q_3, .inl (cI, 1001, .inl (fun _ => 0)))] H := hP
  have hD : va_D A [(qt, .inr (1, [.ref q_1, .int (nI 0), .ref q_2, v3, v4, v5, v6])), (q_1, .inl (cB, 2000, .inl (fun _ => 0))), (q_2, .inl (cI, 1001, .inl (fun _ => 0))), (q_3, .inl (cI, 1001, .inl (fun _ => 0)))] := hD
  refine va_putF (D := (dC, dI)) (ci := 1) (v := .ref q_3) (ty := .array (.int)) (C := R_Text) (T := F_Text) (N := 7) hx hb hts i_Text t_Text t_Text_ok n_Text hown hK hP hD hS 0 rfl rfl 3 (by decide) (hts _ k_42) (fun _ h9 => h9) rfl hin rfl (by decide +kernel) rfl rfl (Nat.le_of_ble_eq_true rfl) d_Text_init_33 (fun H locs hP hD hS => ?_)
  have hP : va_P (dC, dI) cl [(qt, .inr (1, [.ref q_1, .int (nI 0), .ref q_2, .ref q_3, v4, v5, v6])), (q_1, .inl (cB, 2000, .inl (fun _ => 0))), (q_2, .inl (cI, 1001, .inl (fun _ => 0))), (q_3, .inl (cI, 1001, .inl (fun _ => 0)))] H := hP
  have hD : va_D A [(qt, .inr (1, [.ref q_1, .int (nI 0), .ref q_2, .ref q_3, v4, v5, v6])), (q_1, .inl (cB, 2000, .inl (fun _ => 0))), (q_2, .inl (cI, 1001, .inl (fun _ => 0))), (q_3, .inl (cI, 1001, .inl (fun _ => 0)))] := hD
  refine lv_aload_n hx hb d_Text_init_36 rfl (lv_at hl 0 rfl) ?_
  refine lv_sipush (v := nI 1001) hx hb d_Text_init_37 (by decide) ?_
  refine va_newa (atype := .int) (ty := .int) (N' := 1001) (a0 := (1001, .inl (fun _ => 0))) hx hb (hts _ k_66) rfl hK hP hD hS hA (fun _ => rfl) (by decide) (by decide) (by decide) (Nat.le_of_ble_eq_true rfl) (Nat.le_of_ble_eq_true rfl) d_Text_init_40 (fun q_4 cA9 H hK9 hP hD hS => ?_)
  have hc9 : cI = cA9 := (ty_eq hK9 (k := 1) rfl (fun _ h9 => h9)).symm
  clear hK9
  subst hc9
  have hP : va_P (dC, dI) cl [(qt, .inr (1, [.ref q_1, .int (nI 0), .ref q_2, .ref q_3, v4, v5, v6])), (q_1, .inl (cB, 2000, .inl (fun _ => 0))), (q_2, .inl (cI, 1001, .inl (fun _ => 0))), (q_3, .inl (cI, 1001, .inl (fun _ => 0))), (q_4, .inl (cI, 1001, .inl (fun _ => 0)))] H := hP
  have hD : va_D A [(qt, .inr (1, [.ref q_1, .int (nI 0), .ref q_2, .ref q_3, v4, v5, v6])), (q_1, .inl (cB, 2000, .inl (fun _ => 0))), (q_2, .inl (cI, 1001, .inl (fun _ => 0))), (q_3, .inl (cI, 1001, .inl (fun _ => 0))), (q_4, .inl (cI, 1001, .inl (fun _ => 0)))] := hD
  refine va_putF (D := (dC, dI)) (ci := 1) (v := .ref q_4) (ty := .array (.int)) (C := R_Text) (T := F_Text) (N := 7) hx hb hts i_Text t_Text t_Text_ok n_Text hown hK hP hD hS 0 rfl rfl 4 (by decide) (hts _ k_44) (fun _ h9 => h9) rfl hin rfl (by decide +kernel) rfl rfl (Nat.le_of_ble_eq_true rfl) d_Text_init_42 (fun H locs hP hD hS => ?_)
  have hP : va_P (dC, dI) cl [(qt, .inr (1, [.ref q_1, .int (nI 0), .ref q_2, .ref q_3, .ref q_4, v5, v6])), (q_1, .inl (cB, 2000, .inl (fun _ => 0))), (q_2, .inl (cI, 1001, .inl (fun _ => 0))), (q_3, .inl (cI, 1001, .inl (fun _ => 0))), (q_4, .inl (cI, 1001, .inl (fun _ => 0)))] H := hP
  have hD : va_D A [(qt, .inr (1, [.ref q_1, .int (nI 0), .ref q_2, .ref q_3, .ref q_4, v5, v6])), (q_1, .inl (cB, 2000, .inl (fun _ => 0))), (q_2, .inl (cI, 1001, .inl (fun _ => 0))), (q_3, .inl (cI, 1001, .inl (fun _ => 0))), (q_4, .inl (cI, 1001, .inl (fun _ => 0)))] := hD
  refine lv_aload_n hx hb d_Text_init_45 rfl (lv_at hl 0 rfl) ?_
  refine lv_sipush (v := nI 1001) hx hb d_Text_init_46 (by decide) ?_
  refine va_newa (atype := .long) (ty := .long) (N' := 1001) (a0 := (1001, .inr (.inl (fun _ => 0)))) hx hb (hts _ k_67) rfl hK hP hD hS hA (fun _ => rfl) (by decide) (by decide) (by decide) (Nat.le_of_ble_eq_true rfl) (Nat.le_of_ble_eq_true rfl) d_Text_init_49 (fun q_5 cA9 H hK9 hP hD hS => ?_)
  have hc9 : cL = cA9 := (ty_eq hK9 (k := 2) rfl (fun _ h9 => h9)).symm
  clear hK9
  subst hc9
  have hP : va_P (dC, dI) cl [(qt, .inr (1, [.ref q_1, .int (nI 0), .ref q_2, .ref q_3, .ref q_4, v5, v6])), (q_1, .inl (cB, 2000, .inl (fun _ => 0))), (q_2, .inl (cI, 1001, .inl (fun _ => 0))), (q_3, .inl (cI, 1001, .inl (fun _ => 0))), (q_4, .inl (cI, 1001, .inl (fun _ => 0))), (q_5, .inl (cL, 1001, .inr (.inl (fun _ => 0))))] H := hP
  have hD : va_D A [(qt, .inr (1, [.ref q_1, .int (nI 0), .ref q_2, .ref q_3, .ref q_4, v5, v6])), (q_1, .inl (cB, 2000, .inl (fun _ => 0))), (q_2, .inl (cI, 1001, .inl (fun _ => 0))), (q_3, .inl (cI, 1001, .inl (fun _ => 0))), (q_4, .inl (cI, 1001, .inl (fun _ => 0))), (q_5, .inl (cL, 1001, .inr (.inl (fun _ => 0))))] := hD
  refine va_putF (D := (dC, dI)) (ci := 1) (v := .ref q_5) (ty := .array (.long)) (C := R_Text) (T := F_Text) (N := 7) hx hb hts i_Text t_Text t_Text_ok n_Text hown hK hP hD hS 0 rfl rfl 5 (by decide) (hts _ k_46) (fun _ h9 => h9) rfl hin rfl (by decide +kernel) rfl rfl (Nat.le_of_ble_eq_true rfl) d_Text_init_51 (fun H locs hP hD hS => ?_)
  have hP : va_P (dC, dI) cl [(qt, .inr (1, [.ref q_1, .int (nI 0), .ref q_2, .ref q_3, .ref q_4, .ref q_5, v6])), (q_1, .inl (cB, 2000, .inl (fun _ => 0))), (q_2, .inl (cI, 1001, .inl (fun _ => 0))), (q_3, .inl (cI, 1001, .inl (fun _ => 0))), (q_4, .inl (cI, 1001, .inl (fun _ => 0))), (q_5, .inl (cL, 1001, .inr (.inl (fun _ => 0))))] H := hP
  have hD : va_D A [(qt, .inr (1, [.ref q_1, .int (nI 0), .ref q_2, .ref q_3, .ref q_4, .ref q_5, v6])), (q_1, .inl (cB, 2000, .inl (fun _ => 0))), (q_2, .inl (cI, 1001, .inl (fun _ => 0))), (q_3, .inl (cI, 1001, .inl (fun _ => 0))), (q_4, .inl (cI, 1001, .inl (fun _ => 0))), (q_5, .inl (cL, 1001, .inr (.inl (fun _ => 0))))] := hD
  refine lv_aload_n hx hb d_Text_init_54 rfl (lv_at hl 0 rfl) ?_
  refine lv_sipush (v := nI 1001) hx hb d_Text_init_55 (by decide) ?_
  refine va_newa (atype := .long) (ty := .long) (N' := 1001) (a0 := (1001, .inr (.inl (fun _ => 0)))) hx hb (hts _ k_67) rfl hK hP hD hS hA (fun _ => rfl) (by decide) (by decide) (by decide) (Nat.le_of_ble_eq_true rfl) (Nat.le_of_ble_eq_true rfl) d_Text_init_58 (fun q_6 cA9 H hK9 hP hD hS => ?_)
  have hc9 : cL = cA9 := (ty_eq hK9 (k := 2) rfl (fun _ h9 => h9)).symm
  clear hK9
  subst hc9
  have hP : va_P (dC, dI) cl [(qt, .inr (1, [.ref q_1, .int (nI 0), .ref q_2, .ref q_3, .ref q_4, .ref q_5, v6])), (q_1, .inl (cB, 2000, .inl (fun _ => 0))), (q_2, .inl (cI, 1001, .inl (fun _ => 0))), (q_3, .inl (cI, 1001, .inl (fun _ => 0))), (q_4, .inl (cI, 1001, .inl (fun _ => 0))), (q_5, .inl (cL, 1001, .inr (.inl (fun _ => 0)))), (q_6, .inl (cL, 1001, .inr (.inl (fun _ => 0))))] H := hP
  have hD : va_D A [(qt, .inr (1, [.ref q_1, .int (nI 0), .ref q_2, .ref q_3, .ref q_4, .ref q_5, v6])), (q_1, .inl (cB, 2000, .inl (fun _ => 0))), (q_2, .inl (cI, 1001, .inl (fun _ => 0))), (q_3, .inl (cI, 1001, .inl (fun _ => 0))), (q_4, .inl (cI, 1001, .inl (fun _ => 0))), (q_5, .inl (cL, 1001, .inr (.inl (fun _ => 0)))), (q_6, .inl (cL, 1001, .inr (.inl (fun _ => 0))))] := hD
  refine va_putF (D := (dC, dI)) (ci := 1) (v := .ref q_6) (ty := .array (.long)) (C := R_Text) (T := F_Text) (N := 7) hx hb hts i_Text t_Text t_Text_ok n_Text hown hK hP hD hS 0 rfl rfl 6 (by decide) (hts _ k_48) (fun _ h9 => h9) rfl hin rfl (by decide +kernel) rfl rfl (Nat.le_of_ble_eq_true rfl) d_Text_init_60 (fun H locs hP hD hS => ?_)
  have hP : va_P (dC, dI) cl [(qt, .inr (1, [.ref q_1, .int (nI 0), .ref q_2, .ref q_3, .ref q_4, .ref q_5, .ref q_6])), (q_1, .inl (cB, 2000, .inl (fun _ => 0))), (q_2, .inl (cI, 1001, .inl (fun _ => 0))), (q_3, .inl (cI, 1001, .inl (fun _ => 0))), (q_4, .inl (cI, 1001, .inl (fun _ => 0))), (q_5, .inl (cL, 1001, .inr (.inl (fun _ => 0)))), (q_6, .inl (cL, 1001, .inr (.inl (fun _ => 0))))] H := hP
  have hD : va_D A [(qt, .inr (1, [.ref q_1, .int (nI 0), .ref q_2, .ref q_3, .ref q_4, .ref q_5, .ref q_6])), (q_1, .inl (cB, 2000, .inl (fun _ => 0))), (q_2, .inl (cI, 1001, .inl (fun _ => 0))), (q_3, .inl (cI, 1001, .inl (fun _ => 0))), (q_4, .inl (cI, 1001, .inl (fun _ => 0))), (q_5, .inl (cL, 1001, .inr (.inl (fun _ => 0)))), (q_6, .inl (cL, 1001, .inr (.inl (fun _ => 0))))] := hD
  exact wr_v hx hb hr hlocks (q_1, q_2, q_3, q_4, q_5, q_6) trivial hK hP hD hS d_Text_init_63
theorem d_Name_init_0 : decode b_Name_init 0 = .ok (.aload_n 0, 1) := by decide +kernel
theorem d_Name_init_1 : decode b_Name_init 1 = .ok (.invokespecial 1, 3) := by decide +kernel
theorem d_Name_init_4 : decode b_Name_init 4 = .ok (.aload_n 0, 1) := by decide +kernel
theorem d_Name_init_5 : decode b_Name_init 5 = .ok (.lload_n 1, 1) := by decide +kernel
theorem d_Name_init_6 : decode b_Name_init 6 = .ok (.putfield 7, 3) := by decide +kernel
theorem d_Name_init_9 : decode b_Name_init 9 = .ok (.aload_n 0, 1) := by decide +kernel
theorem d_Name_init_10 : decode b_Name_init 10 = .ok (.lload_n 3, 1) := by decide +kernel
theorem d_Name_init_11 : decode b_Name_init 11 = .ok (.putfield 13, 3) := by decide +kernel
theorem d_Name_init_14 : decode b_Name_init 14 = .ok (.aload_n 0, 1) := by decide +kernel
theorem d_Name_init_15 : decode b_Name_init 15 = .ok (.iload 5, 2) := by decide +kernel
theorem d_Name_init_17 : decode b_Name_init 17 = .ok (.putfield 16, 3) := by decide +kernel
theorem d_Name_init_20 : decode b_Name_init 20 = .ok (.return_, 1) := by decide +kernel
set_option maxHeartbeats 4000000 in
set_option maxRecDepth 100000 in
/-- Name_init -/
theorem c_Name_init (l : Launch) (dC : Nat → ClassId) (dI : Nat → Nat → Nat) (cB cI cL cZ cC cO : ClassId) (qn : Nat) {v0 v1 v2 : Value} (h2 t2 : Int64) (x : Int32) (sz : Nat)  : Met l y_Name_init w_Name_init ({ frames := 1, cells := 0, slots := 0, locals := 12 }) (va_Pc [.ref qn, .long h2, .long t2, .int x] (wB (dC, dI) cl [(cB, .byte), (cI, .int), (cL, .long), (cZ, .boolean), (cC, .char), (cO, .object "java/lang/Object")] sz [(qn, .inr (7, [v0, v1, v2]))])) (va_Qv (fun (u : Unit) => True) (fun _ t => wA (dC, dI) cl [(cB, .byte), (cI, .int), (cL, .long), (cZ, .boolean), (cC, .char), (cO, .object "java/lang/Object")] (va_A [(qn, .inr (7, [v0, v1, v2]))] sz) [(qn, .inr (7, [.long h2, .long t2, .int x]))] t) (va_A [(qn, .inr (7, [v0, v1, v2]))] sz)) 0 0 (va_A [(qn, .inr (7, [v0, v1, v2]))] sz) := by
  refine Met.ofW (cc := b_Name_init) (maxL := 6) (ret := none) (by decide) rfl ?_
  intro p e s m args below meth c s₁ B hml hv
  obtain ⟨rfl, hsz, hP, hK, hD0, hF⟩ := hv
  have hx := B.exec
  have hb := B.bytes
  have hr := B.returns
  have hts := atoms_spec (ws := w_Name_init) B.pre
  have hts : ∀ w ∈ tb, w.before _ s = true := fun w h => hts w (List.mem_cons_of_mem _ h)
  have hown : s.vm.findClass R_Name = some m.cls := findClass_of_methodNamed B.named
  have hlocks := B.notSynchronized
  have hin : meth.name = "<init>" := (name_of_methodNamed B.named B.method).1
  subst hsz
  have hD := hD0.self (sz := s.heap.size)
  generalize hAe : va_A [(qn, .inr (7, [v0, v1, v2]))] s.heap.size = A at hD hF ⊢
  have hA : ∀ q : Nat, s.heap.size ≤ q → A q := fun q h => by rw [← hAe]; exact Or.inr h
  have hS : va_S A s.heap s.heap [] := va_S.rf
  have hP : va_P (dC, dI) cl [(qn, .inr (7, [v0, v1, v2]))] s.heap := hP
  have hl := lv_entry ([.ref qn, .long h2, .long t2, .int x]) (n := 6) (Nat.le_of_ble_eq_true rfl)
  rw [lg_entry_eq]
  generalize (lg_sl ([.ref qn, .long h2, .long t2, .int x]) ++ List.replicate (6 - (lg_sl ([.ref qn, .long h2, .long t2, .int x])).length) Slot.unset).toArray = ls at hl ⊢
  have hl : lv_has ls 6 [(0, .ref qn), (1, .long h2), (3, .long t2), (5, .int x)] := hl
  refine lv_aload_n hx hb d_Name_init_0 rfl (lv_at hl 0 rfl) ?_
  refine W.objInit hx hb hown (hts _ k_146) (hts _ k_29) (hts _ k_30) rfl (by rw [hml]; exact hl.1) rfl d_Name_init_1 (Nat.le_of_ble_eq_true rfl) (Nat.le_of_ble_eq_true rfl) ?_
  refine W.eq (g2 := F0 m 4 ls []) rfl ?_
  refine lv_aload_n hx hb d_Name_init_4 rfl (lv_at hl 0 rfl) ?_
  refine lv_lload_n hx hb d_Name_init_5 rfl (lv_at hl 1 rfl) ?_
  refine va_putF (D := (dC, dI)) (ci := 7) (v := .long h2) (ty := .long) (C := R_Name) (T := F_Name) (N := 3) hx hb hts i_Name t_Name t_Name_ok n_Name hown hK hP hD hS 0 rfl rfl 0 (by decide) (hts _ k_147) (fun _ h9 => h9) rfl hin rfl (by decide +kernel) rfl rfl (Nat.le_of_ble_eq_true rfl) d_Name_init_6 (fun H locs hP hD hS => ?_)
  have hP : va_P (dC, dI) cl [(qn, .inr (7, [.long h2, v1, v2]))] H := hP
  have hD : va_D A [(qn, .inr (7, [.long h2, v1, v2]))] := hD
  refine lv_aload_n hx hb d_Name_init_9 rfl (lv_at hl 0 rfl) ?_
  refine lv_lload_n hx hb d_Name_init_10 rfl (lv_at hl 2 rfl) ?_
  refine va_putF (D := (dC, dI)) (ci := 7) (v := .long t2) (ty := .long) (C := R_Name) (T := F_Name) (N := 3) hx hb hts i_Name t_Name t_Name_ok n_Name hown hK hP hD hS 0 rfl rfl 1 (by decide) (hts _ k_148) (fun _ h9 => h9) rfl hin rfl (by decide +kernel) rfl rfl (Nat.le_of_ble_eq_true rfl) d_Name_init_11 (fun H locs hP hD hS => ?_)
  have hP : va_P (dC, dI) cl [(qn, .inr (7, [.long h2, .long t2, v2]))] H := hP
  have hD : va_D A [(qn, .inr (7, [.long h2, .long t2, v2]))] := hD
  refine lv_aload_n hx hb d_Name_init_14 rfl (lv_at hl 0 rfl) ?_
  refine lv_iload hx hb d_Name_init_15 (lv_at hl 3 rfl) ?_
  refine va_putF (D := (dC, dI)) (ci := 7) (v := .int x) (ty := .int) (C := R_Name) (T := F_Name) (N := 3) hx hb hts i_Name t_Name t_Name_ok n_Name hown hK hP hD hS 0 rfl rfl 2 (by decide) (hts _ k_149) (fun _ h9 => h9) rfl hin rfl (by decide +kernel) rfl rfl (Nat.le_of_ble_eq_true rfl) d_Name_init_17 (fun H locs hP hD hS => ?_)
  have hP : va_P (dC, dI) cl [(qn, .inr (7, [.long h2, .long t2, .int x]))] H := hP
  have hD : va_D A [(qn, .inr (7, [.long h2, .long t2, .int x]))] := hD
  exact wr_v hx hb hr hlocks () trivial hK hP hD hS d_Name_init_20
theorem d_Side_init_0 : decode b_Side_init 0 = .ok (.aload_n 0, 1) := by decide +kernel
theorem d_Side_init_1 : decode b_Side_init 1 = .ok (.invokespecial 1, 3) := by decide +kernel
theorem d_Side_init_4 : decode b_Side_init 4 = .ok (.aload_n 0, 1) := by decide +kernel
theorem d_Side_init_5 : decode b_Side_init 5 = .ok (.iconst (-1), 1) := by decide +kernel
theorem d_Side_init_6 : decode b_Side_init 6 = .ok (.putfield 9, 3) := by decide +kernel
theorem d_Side_init_9 : decode b_Side_init 9 = .ok (.aload_n 0, 1) := by decide +kernel
theorem d_Side_init_10 : decode b_Side_init 10 = .ok (.iconst (-1), 1) := by decide +kernel
theorem d_Side_init_11 : decode b_Side_init 11 = .ok (.putfield 13, 3) := by decide +kernel
theorem d_Side_init_14 : decode b_Side_init 14 = .ok (.aload_n 0, 1) := by decide +kernel
theorem d_Side_init_15 : decode b_Side_init 15 = .ok (.iconst 0, 1) := by decide +kernel
theorem d_Side_init_16 : decode b_Side_init 16 = .ok (.putfield 16, 3) := by decide +kernel
theorem d_Side_init_19 : decode b_Side_init 19 = .ok (.aload_n 0, 1) := by decide +kernel
theorem d_Side_init_20 : decode b_Side_init 20 = .ok (.iconst 0, 1) := by decide +kernel
theorem d_Side_init_21 : decode b_Side_init 21 = .ok (.putfield 19, 3) := by decide +kernel
theorem d_Side_init_24 : decode b_Side_init 24 = .ok (.aload_n 0, 1) := by decide +kernel
theorem d_Side_init_25 : decode b_Side_init 25 = .ok (.aload_n 1, 1) := by decide +kernel
theorem d_Side_init_26 : decode b_Side_init 26 = .ok (.putfield 22, 3) := by decide +kernel
theorem d_Side_init_29 : decode b_Side_init 29 = .ok (.return_, 1) := by decide +kernel
set_option maxHeartbeats 4000000 in
set_option maxRecDepth 100000 in
/-- Side_init -/
theorem c_Side_init (l : Launch) (dC : Nat → ClassId) (dI : Nat → Nat → Nat) (cB cI cL cZ cC cO : ClassId) (qs qn : Nat) {v0 v1 v2 v3 v4 : Value} (sz : Nat)  : Met l y_Side_init w_Side_init ({ frames := 1, cells := 0, slots := 0, locals := 12 }) (va_Pc [.ref qs, .ref qn] (wB (dC, dI) cl [(cB, .byte), (cI, .int), (cL, .long), (cZ, .boolean), (cC, .char), (cO, .object "java/lang/Object")] sz [(qs, .inr (11, [v0, v1, v2, v3, v4]))])) (va_Qv (fun (u : Unit) => True) (fun _ t => wA (dC, dI) cl [(cB, .byte), (cI, .int), (cL, .long), (cZ, .boolean), (cC, .char), (cO, .object "java/lang/Object")] (va_A [(qs, .inr (11, [v0, v1, v2, v3, v4]))] sz) [(qs, .inr (11, [.ref qn, .int (-1), .int (-1), .int (nI 0), .int (nI 0)]))] t) (va_A [(qs, .inr (11, [v0, v1, v2, v3, v4]))] sz)) 0 0 (va_A [(qs, .inr (11, [v0, v1, v2, v3, v4]))] sz) := by
  refine Met.ofW (cc := b_Side_init) (maxL := 2) (ret := none) (by decide) rfl ?_
  intro p e s m args below meth c s₁ B hml hv
  obtain ⟨rfl, hsz, hP, hK, hD0, hF⟩ := hv
  have hx := B.exec
  have hb := B.bytes
  have hr := B.returns
  have hts := atoms_spec (ws := w_Side_init) B.pre
  have hts : ∀ w ∈ tb, w.before _ s = true := fun w h => hts w (List.mem_cons_of_mem _ h)
  have hown : s.vm.findClass R_Side = some m.cls := findClass_of_methodNamed B.named
  have hlocks := B.notSynchronized
  have hin : meth.name = "<init>" := (name_of_methodNamed B.named B.method).1
  subst hsz
  have hD := hD0.self (sz := s.heap.size)
  generalize hAe : va_A [(qs, .inr (11, [v0, v1, v2, v3, v4]))] s.heap.size = A at hD hF ⊢
  have hA : ∀ q : Nat, s.heap.size ≤ q → A q := fun q h => by rw [← hAe]; exact Or.inr h
  have hS : va_S A s.heap s.heap [] := va_S.rf
  have hP : va_P (dC, dI) cl [(qs, .inr (11, [v0, v1, v2, v3, v4]))] s.heap := hP
  have hl := lv_entry ([.ref qs, .ref qn]) (n := 2) (Nat.le_of_ble_eq_true rfl)
  rw [lg_entry_eq]
  generalize (lg_sl ([.ref qs, .ref qn]) ++ List.replicate (2 - (lg_sl ([.ref qs, .ref qn])).length) Slot.unset).toArray = ls at hl ⊢
  have hl : lv_has ls 2 [(0, .ref qs), (1, .ref qn)] := hl
  refine lv_aload_n hx hb d_Side_init_0 rfl (lv_at hl 0 rfl) ?_
  refine W.objInit hx hb hown (hts _ k_612) (hts _ k_29) (hts _ k_30) rfl (by rw [hml]; exact hl.1) rfl d_Side_init_1 (Nat.le_of_ble_eq_true rfl) (Nat.le_of_ble_eq_true rfl) ?_
  refine W.eq (g2 := F0 m 4 ls []) rfl ?_
  refine lv_aload_n hx hb d_Side_init_4 rfl (lv_at hl 0 rfl) ?_
  refine lv_iconst (v := (-1)) hx hb d_Side_init_5 (by decide) ?_
  refine va_put (D := (dC, dI)) (ci := 11) (v := .int (-1)) (ty := .int) (C := R_Side) (T := F_Side) (N := 5) hx hb hts i_Side t_Side t_Side_ok n_Side hown hK hP hD hS 0 rfl rfl 1 (by decide) (hts _ k_616) (fun _ h9 => h9) rfl (by decide +kernel) rfl rfl (Nat.le_of_ble_eq_true rfl) d_Side_init_6 (fun H locs hP hD hS => ?_)
  have hP : va_P (dC, dI) cl [(qs, .inr (11, [v0, .int (-1), v2, v3, v4]))] H := hP
  have hD : va_D A [(qs, .inr (11, [v0, .int (-1), v2, v3, v4]))] := hD
  refine lv_aload_n hx hb d_Side_init_9 rfl (lv_at hl 0 rfl) ?_
  refine lv_iconst (v := (-1)) hx hb d_Side_init_10 (by decide) ?_
  refine va_put (D := (dC, dI)) (ci := 11) (v := .int (-1)) (ty := .int) (C := R_Side) (T := F_Side) (N := 5) hx hb hts i_Side t_Side t_Side_ok n_Side hown hK hP hD hS 0 rfl rfl 2 (by decide) (hts _ k_619) (fun _ h9 => h9) rfl (by decide +kernel) rfl rfl (Nat.le_of_ble_eq_true rfl) d_Side_init_11 (fun H locs hP hD hS => ?_)
  have hP : va_P (dC, dI) cl [(qs, .inr (11, [v0, .int (-1), .int (-1), v3, v4]))] H := hP
  have hD : va_D A [(qs, .inr (11, [v0, .int (-1), .int (-1), v3, v4]))] := hD
  refine lv_aload_n hx hb d_Side_init_14 rfl (lv_at hl 0 rfl) ?_
  refine lv_iconst (v := nI 0) hx hb d_Side_init_15 (by decide) ?_
  refine va_put (D := (dC, dI)) (ci := 11) (v := .int (nI 0)) (ty := .int) (C := R_Side) (T := F_Side) (N := 5) hx hb hts i_Side t_Side t_Side_ok n_Side hown hK hP hD hS 0 rfl rfl 3 (by decide) (hts _ k_622) (fun _ h9 => h9) rfl (by decide +kernel) rfl rfl (Nat.le_of_ble_eq_true rfl) d_Side_init_16 (fun H locs hP hD hS => ?_)
  have hP : va_P (dC, dI) cl [(qs, .inr (11, [v0, .int (-1), .int (-1), .int (nI 0), v4]))] H := hP
  have hD : va_D A [(qs, .inr (11, [v0, .int (-1), .int (-1), .int (nI 0), v4]))] := hD
  refine lv_aload_n hx hb d_Side_init_19 rfl (lv_at hl 0 rfl) ?_
  refine lv_iconst (v := nI 0) hx hb d_Side_init_20 (by decide) ?_
  refine va_put (D := (dC, dI)) (ci := 11) (v := .int (nI 0)) (ty := .int) (C := R_Side) (T := F_Side) (N := 5) hx hb hts i_Side t_Side t_Side_ok n_Side hown hK hP hD hS 0 rfl rfl 4 (by decide) (hts _ k_625) (fun _ h9 => h9) rfl (by decide +kernel) rfl rfl (Nat.le_of_ble_eq_true rfl) d_Side_init_21 (fun H locs hP hD hS => ?_)
  have hP : va_P (dC, dI) cl [(qs, .inr (11, [v0, .int (-1), .int (-1), .int (nI 0), .int (nI 0)]))] H := hP
  have hD : va_D A [(qs, .inr (11, [v0, .int (-1), .int (-1), .int (nI 0), .int (nI 0)]))] := hD
  refine lv_aload_n hx hb d_Side_init_24 rfl (lv_at hl 0 rfl) ?_
  refine lv_aload_n hx hb d_Side_init_25 rfl (lv_at hl 1 rfl) ?_
  refine va_putF (D := (dC, dI)) (ci := 11) (v := .ref qn) (ty := .object "ChipDesk$Name") (C := R_Side) (T := F_Side) (N := 5) hx hb hts i_Side t_Side t_Side_ok n_Side hown hK hP hD hS 0 rfl rfl 0 (by decide) (hts _ k_613) (fun _ h9 => h9) rfl hin rfl (by decide +kernel) rfl rfl (Nat.le_of_ble_eq_true rfl) d_Side_init_26 (fun H locs hP hD hS => ?_)
  have hP : va_P (dC, dI) cl [(qs, .inr (11, [.ref qn, .int (-1), .int (-1), .int (nI 0), .int (nI 0)]))] H := hP
  have hD : va_D A [(qs, .inr (11, [.ref qn, .int (-1), .int (-1), .int (nI 0), .int (nI 0)]))] := hD
  exact wr_v hx hb hr hlocks () trivial hK hP hD hS d_Side_init_29
theorem d_Wire_init_0 : decode b_Wire_init 0 = .ok (.aload_n 0, 1) := by decide +kernel
theorem d_Wire_init_1 : decode b_Wire_init 1 = .ok (.invokespecial 1, 3) := by decide +kernel
theorem d_Wire_init_4 : decode b_Wire_init 4 = .ok (.aload_n 0, 1) := by decide +kernel
theorem d_Wire_init_5 : decode b_Wire_init 5 = .ok (.iconst 1, 1) := by decide +kernel
theorem d_Wire_init_6 : decode b_Wire_init 6 = .ok (.putfield 7, 3) := by decide +kernel
theorem d_Wire_init_9 : decode b_Wire_init 9 = .ok (.aload_n 0, 1) := by decide +kernel
theorem d_Wire_init_10 : decode b_Wire_init 10 = .ok (.iconst (-1), 1) := by decide +kernel
theorem d_Wire_init_11 : decode b_Wire_init 11 = .ok (.putfield 15, 3) := by decide +kernel
theorem d_Wire_init_14 : decode b_Wire_init 14 = .ok (.aload_n 0, 1) := by decide +kernel
theorem d_Wire_init_15 : decode b_Wire_init 15 = .ok (.iconst 0, 1) := by decide +kernel
theorem d_Wire_init_16 : decode b_Wire_init 16 = .ok (.putfield 18, 3) := by decide +kernel
theorem d_Wire_init_19 : decode b_Wire_init 19 = .ok (.aload_n 0, 1) := by decide +kernel
theorem d_Wire_init_20 : decode b_Wire_init 20 = .ok (.iconst 0, 1) := by decide +kernel
theorem d_Wire_init_21 : decode b_Wire_init 21 = .ok (.putfield 21, 3) := by decide +kernel
theorem d_Wire_init_24 : decode b_Wire_init 24 = .ok (.aload_n 0, 1) := by decide +kernel
theorem d_Wire_init_25 : decode b_Wire_init 25 = .ok (.iconst 0, 1) := by decide +kernel
theorem d_Wire_init_26 : decode b_Wire_init 26 = .ok (.putfield 24, 3) := by decide +kernel
theorem d_Wire_init_29 : decode b_Wire_init 29 = .ok (.aload_n 0, 1) := by decide +kernel
theorem d_Wire_init_30 : decode b_Wire_init 30 = .ok (.aload_n 1, 1) := by decide +kernel
theorem d_Wire_init_31 : decode b_Wire_init 31 = .ok (.putfield 28, 3) := by decide +kernel
theorem d_Wire_init_34 : decode b_Wire_init 34 = .ok (.aload_n 0, 1) := by decide +kernel
theorem d_Wire_init_35 : decode b_Wire_init 35 = .ok (.iload_n 2, 1) := by decide +kernel
theorem d_Wire_init_36 : decode b_Wire_init 36 = .ok (.putfield 32, 3) := by decide +kernel
theorem d_Wire_init_39 : decode b_Wire_init 39 = .ok (.return_, 1) := by decide +kernel
set_option maxHeartbeats 4000000 in
set_option maxRecDepth 100000 in
/-- Wire_init -/
theorem c_Wire_init (l : Launch) (dC : Nat → ClassId) (dI : Nat → Nat → Nat) (cB cI cL cZ cC cO : ClassId) (qw qn : Nat) {v0 v1 v2 v3 v4 v5 v6 : Value} (x : Int32) (sz : Nat)  : Met l y_Wire_init w_Wire_init ({ frames := 1, cells := 0, slots := 0, locals := 12 }) (va_Pc [.ref qw, .ref qn, .int x] (wB (dC, dI) cl [(cB, .byte), (cI, .int), (cL, .long), (cZ, .boolean), (cC, .char), (cO, .object "java/lang/Object")] sz [(qw, .inr (8, [v0, v1, v2, v3, v4, v5, v6]))])) (va_Qv (fun (u : Unit) => True) (fun _ t => wA (dC, dI) cl [(cB, .byte), (cI, .int), (cL, .long), (cZ, .boolean), (cC, .char), (cO, .object "java/lang/Object")] (va_A [(qw, .inr (8, [v0, v1, v2, v3, v4, v5, v6]))] sz) [(qw, .inr (8, [.ref qn, .int x, .int (nI 1), .int (-1), .int (nI 0), .int (nI 0), .int (nI 0)]))] t) (va_A [(qw, .inr (8, [v0, v1, v2, v3, v4, v5, v6]))] sz)) 0 0 (va_A [(qw, .inr (8, [v0, v1, v2, v3, v4, v5, v6]))] sz) := by
  refine Met.ofW (cc := b_Wire_init) (maxL := 3) (ret := none) (by decide) rfl ?_
  intro p e s m args below meth c s₁ B hml hv
  obtain ⟨rfl, hsz, hP, hK, hD0, hF⟩ := hv
  have hx := B.exec
  have hb := B.bytes
  have hr := B.returns
  have hts := atoms_spec (ws := w_Wire_init) B.pre
  have hts : ∀ w ∈ tb, w.before _ s = true := fun w h => hts w (List.mem_cons_of_mem _ h)
  have hown : s.vm.findClass R_Wire = some m.cls := findClass_of_methodNamed B.named
  have hlocks := B.notSynchronized
  have hin : meth.name = "<init>" := (name_of_methodNamed B.named B.method).1
  subst hsz
  have hD := hD0.self (sz := s.heap.size)
  generalize hAe : va_A [(qw, .inr (8, [v0, v1, v2, v3, v4, v5, v6]))] s.heap.size = A at hD hF ⊢
  have hA : ∀ q : Nat, s.heap.size ≤ q → A q := fun q h => by rw [← hAe]; exact Or.inr h
  have hS : va_S A s.heap s.heap [] := va_S.rf
  have hP : va_P (dC, dI) cl [(qw, .inr (8, [v0, v1, v2, v3, v4, v5, v6]))] s.heap := hP
  have hl := lv_entry ([.ref qw, .ref qn, .int x]) (n := 3) (Nat.le_of_ble_eq_true rfl)
  rw [lg_entry_eq]
  generalize (lg_sl ([.ref qw, .ref qn, .int x]) ++ List.replicate (3 - (lg_sl ([.ref qw, .ref qn, .int x])).length) Slot.unset).toArray = ls at hl ⊢
  have hl : lv_has ls 3 [(0, .ref qw), (1, .ref qn), (2, .int x)] := hl
  refine lv_aload_n hx hb d_Wire_init_0 rfl (lv_at hl 0 rfl) ?_
  refine W.objInit hx hb hown (hts _ k_213) (hts _ k_29) (hts _ k_30) rfl (by rw [hml]; exact hl.1) rfl d_Wire_init_1 (Nat.le_of_ble_eq_true rfl) (Nat.le_of_ble_eq_true rfl) ?_
  refine W.eq (g2 := F0 m 4 ls []) rfl ?_
  refine lv_aload_n hx hb d_Wire_init_4 rfl (lv_at hl 0 rfl) ?_
  refine lv_iconst (v := nI 1) hx hb d_Wire_init_5 (by decide) ?_
  refine va_put (D := (dC, dI)) (ci := 8) (v := .int (nI 1)) (ty := .int) (C := R_Wire) (T := F_Wire) (N := 7) hx hb hts i_Wire t_Wire t_Wire_ok n_Wire hown hK hP hD hS 0 rfl rfl 2 (by decide) (hts _ k_221) (fun _ h9 => h9) rfl (by decide +kernel) rfl rfl (Nat.le_of_ble_eq_true rfl) d_Wire_init_6 (fun H locs hP hD hS => ?_)
  have hP : va_P (dC, dI) cl [(qw, .inr (8, [v0, v1, .int (nI 1), v3, v4, v5, v6]))] H := hP
  have hD : va_D A [(qw, .inr (8, [v0, v1, .int (nI 1), v3, v4, v5, v6]))] := hD
  refine lv_aload_n hx hb d_Wire_init_9 rfl (lv_at hl 0 rfl) ?_
  refine lv_iconst (v := (-1)) hx hb d_Wire_init_10 (by decide) ?_
  refine va_put (D := (dC, dI)) (ci := 8) (v := .int (-1)) (ty := .int) (C := R_Wire) (T := F_Wire) (N := 7) hx hb hts i_Wire t_Wire t_Wire_ok n_Wire hown hK hP hD hS 0 rfl rfl 3 (by decide) (hts _ k_225) (fun _ h9 => h9) rfl (by decide +kernel) rfl rfl (Nat.le_of_ble_eq_true rfl) d_Wire_init_11 (fun H locs hP hD hS => ?_)
  have hP : va_P (dC, dI) cl [(qw, .inr (8, [v0, v1, .int (nI 1), .int (-1), v4, v5, v6]))] H := hP
  have hD : va_D A [(qw, .inr (8, [v0, v1, .int (nI 1), .int (-1), v4, v5, v6]))] := hD
  refine lv_aload_n hx hb d_Wire_init_14 rfl (lv_at hl 0 rfl) ?_
  refine lv_iconst (v := nI 0) hx hb d_Wire_init_15 (by decide) ?_
  refine va_put (D := (dC, dI)) (ci := 8) (v := .int (nI 0)) (ty := .int) (C := R_Wire) (T := F_Wire) (N := 7) hx hb hts i_Wire t_Wire t_Wire_ok n_Wire hown hK hP hD hS 0 rfl rfl 4 (by decide) (hts _ k_227) (fun _ h9 => h9) rfl (by decide +kernel) rfl rfl (Nat.le_of_ble_eq_true rfl) d_Wire_init_16 (fun H locs hP hD hS => ?_)
  have hP : va_P (dC, dI) cl [(qw, .inr (8, [v0, v1, .int (nI 1), .int (-1), .int (nI 0), v5, v6]))] H := hP
  have hD : va_D A [(qw, .inr (8, [v0, v1, .int (nI 1), .int (-1), .int (nI 0), v5, v6]))] := hD
  refine lv_aload_n hx hb d_Wire_init_19 rfl (lv_at hl 0 rfl) ?_
  refine lv_iconst (v := nI 0) hx hb d_Wire_init_20 (by decide) ?_
  refine va_put (D := (dC, dI)) (ci := 8) (v := .int (nI 0)) (ty := .int) (C := R_Wire) (T := F_Wire) (N := 7) hx hb hts i_Wire t_Wire t_Wire_ok n_Wire hown hK hP hD hS 0 rfl rfl 5 (by decide) (hts _ k_230) (fun _ h9 => h9) rfl (by decide +kernel) rfl rfl (Nat.le_of_ble_eq_true rfl) d_Wire_init_21 (fun H locs hP hD hS => ?_)
  have hP : va_P (dC, dI) cl [(qw, .inr (8, [v0, v1, .int (nI 1), .int (-1), .int (nI 0), .int (nI 0), v6]))] H := hP
  have hD : va_D A [(qw, .inr (8, [v0, v1, .int (nI 1), .int (-1), .int (nI 0), .int (nI 0), v6]))] := hD
  refine lv_aload_n hx hb d_Wire_init_24 rfl (lv_at hl 0 rfl) ?_
  refine lv_iconst (v := nI 0) hx hb d_Wire_init_25 (by decide) ?_
  refine va_put (D := (dC, dI)) (ci := 8) (v := .int (nI 0)) (ty := .boolean) (C := R_Wire) (T := F_Wire) (N := 7) hx hb hts i_Wire t_Wire t_Wire_ok n_Wire hown hK hP hD hS 0 rfl rfl 6 (by decide) (hts _ k_233) (fun _ h9 => h9) rfl (by decide +kernel) rfl rfl (Nat.le_of_ble_eq_true rfl) d_Wire_init_26 (fun H locs hP hD hS => ?_)
  have hP : va_P (dC, dI) cl [(qw, .inr (8, [v0, v1, .int (nI 1), .int (-1), .int (nI 0), .int (nI 0), .int (nI 0)]))] H := hP
  have hD : va_D A [(qw, .inr (8, [v0, v1, .int (nI 1), .int (-1), .int (nI 0), .int (nI 0), .int (nI 0)]))] := hD
  refine lv_aload_n hx hb d_Wire_init_29 rfl (lv_at hl 0 rfl) ?_
  refine lv_aload_n hx hb d_Wire_init_30 rfl (lv_at hl 1 rfl) ?_
  refine va_putF (D := (dC, dI)) (ci := 8) (v := .ref qn) (ty := .object "ChipDesk$Name") (C := R_Wire) (T := F_Wire) (N := 7) hx hb hts i_Wire t_Wire t_Wire_ok n_Wire hown hK hP hD hS 0 rfl rfl 0 (by decide) (hts _ k_214) (fun _ h9 => h9) rfl hin rfl (by decide +kernel) rfl rfl (Nat.le_of_ble_eq_true rfl) d_Wire_init_31 (fun H locs hP hD hS => ?_)
  have hP : va_P (dC, dI) cl [(qw, .inr (8, [.ref qn, v1, .int (nI 1), .int (-1), .int (nI 0), .int (nI 0), .int (nI 0)]))] H := hP
  have hD : va_D A [(qw, .inr (8, [.ref qn, v1, .int (nI 1), .int (-1), .int (nI 0), .int (nI 0), .int (nI 0)]))] := hD
  refine lv_aload_n hx hb d_Wire_init_34 rfl (lv_at hl 0 rfl) ?_
  refine lv_iload_n hx hb d_Wire_init_35 rfl (lv_at hl 2 rfl) ?_
  refine va_putF (D := (dC, dI)) (ci := 8) (v := .int x) (ty := .int) (C := R_Wire) (T := F_Wire) (N := 7) hx hb hts i_Wire t_Wire t_Wire_ok n_Wire hown hK hP hD hS 0 rfl rfl 1 (by decide) (hts _ k_217) (fun _ h9 => h9) rfl hin rfl (by decide +kernel) rfl rfl (Nat.le_of_ble_eq_true rfl) d_Wire_init_36 (fun H locs hP hD hS => ?_)
  have hP : va_P (dC, dI) cl [(qw, .inr (8, [.ref qn, .int x, .int (nI 1), .int (-1), .int (nI 0), .int (nI 0), .int (nI 0)]))] H := hP
  have hD : va_D A [(qw, .inr (8, [.ref qn, .int x, .int (nI 1), .int (-1), .int (nI 0), .int (nI 0), .int (nI 0)]))] := hD
  exact wr_v hx hb hr hlocks () trivial hK hP hD hS d_Wire_init_39
theorem d_Link_init_0 : decode b_Link_init 0 = .ok (.aload_n 0, 1) := by decide +kernel
theorem d_Link_init_1 : decode b_Link_init 1 = .ok (.invokespecial 1, 3) := by decide +kernel
theorem d_Link_init_4 : decode b_Link_init 4 = .ok (.aload_n 0, 1) := by decide +kernel
theorem d_Link_init_5 : decode b_Link_init 5 = .ok (.aconst_null, 1) := by decide +kernel
theorem d_Link_init_6 : decode b_Link_init 6 = .ok (.putfield 7, 3) := by decide +kernel
theorem d_Link_init_9 : decode b_Link_init 9 = .ok (.aload_n 0, 1) := by decide +kernel
theorem d_Link_init_10 : decode b_Link_init 10 = .ok (.aload_n 1, 1) := by decide +kernel
theorem d_Link_init_11 : decode b_Link_init 11 = .ok (.putfield 13, 3) := by decide +kernel
theorem d_Link_init_14 : decode b_Link_init 14 = .ok (.aload_n 0, 1) := by decide +kernel
theorem d_Link_init_15 : decode b_Link_init 15 = .ok (.aload_n 2, 1) := by decide +kernel
theorem d_Link_init_16 : decode b_Link_init 16 = .ok (.putfield 17, 3) := by decide +kernel
theorem d_Link_init_19 : decode b_Link_init 19 = .ok (.aload_n 0, 1) := by decide +kernel
theorem d_Link_init_20 : decode b_Link_init 20 = .ok (.aload_n 3, 1) := by decide +kernel
theorem d_Link_init_21 : decode b_Link_init 21 = .ok (.putfield 20, 3) := by decide +kernel
theorem d_Link_init_24 : decode b_Link_init 24 = .ok (.return_, 1) := by decide +kernel
set_option maxHeartbeats 4000000 in
set_option maxRecDepth 100000 in
/-- Link -/
theorem c_Link_init (l : Launch) (dC : Nat → ClassId) (dI : Nat → Nat → Nat) (cB cI cL cZ cC cO : ClassId) (qk qa qb qw : Nat) {v0 v1 v2 v3 : Value} (sz : Nat)  : Met l y_Link_init w_Link_init ({ frames := 1, cells := 0, slots := 0, locals := 12 }) (va_Pc [.ref qk, .ref qa, .ref qb, .ref qw] (wB (dC, dI) cl [(cB, .byte), (cI, .int), (cL, .long), (cZ, .boolean), (cC, .char), (cO, .object "java/lang/Object")] sz [(qk, .inr (12, [v0, v1, v2, v3]))])) (va_Qv (fun (u : Unit) => True) (fun _ t => wA (dC, dI) cl [(cB, .byte), (cI, .int), (cL, .long), (cZ, .boolean), (cC, .char), (cO, .object "java/lang/Object")] (va_A [(qk, .inr (12, [v0, v1, v2, v3]))] sz) [(qk, .inr (12, [.ref qa, .ref qb, .null, .ref qw]))] t) (va_A [(qk, .inr (12, [v0, v1, v2, v3]))] sz)) 0 0 (va_A [(qk, .inr (12, [v0, v1, v2, v3]))] sz) := by
  refine Met.ofW (cc := b_Link_init) (maxL := 4) (ret := none) (by decide) rfl ?_
  intro p e s m args below meth c s₁ B hml hv
  obtain ⟨rfl, hsz, hP, hK, hD0, hF⟩ := hv
  have hx := B.exec
  have hb := B.bytes
  have hr := B.returns
  have hts := atoms_spec (ws := w_Link_init) B.pre
  have hts : ∀ w ∈ tb, w.before _ s = true := fun w h => hts w (List.mem_cons_of_mem _ h)
  have hown : s.vm.findClass R_Link = some m.cls := findClass_of_methodNamed B.named
  have hlocks := B.notSynchronized
  have hin : meth.name = "<init>" := (name_of_methodNamed B.named B.method).1
  subst hsz
  have hD := hD0.self (sz := s.heap.size)
  generalize hAe : va_A [(qk, .inr (12, [v0, v1, v2, v3]))] s.heap.size = A at hD hF ⊢
  have hA : ∀ q : Nat, s.heap.size ≤ q → A q := fun q h => by rw [← hAe]; exact Or.inr h
  have hS : va_S A s.heap s.heap [] := va_S.rf
  have hP : va_P (dC, dI) cl [(qk, .inr (12, [v0, v1, v2, v3]))] s.heap := hP
  have hl := lv_entry ([.ref qk, .ref qa, .ref qb, .ref qw]) (n := 4) (Nat.le_of_ble_eq_true rfl)
  rw [lg_entry_eq]
  generalize (lg_sl ([.ref qk, .ref qa, .ref qb, .ref qw]) ++ List.replicate (4 - (lg_sl ([.ref qk, .ref qa, .ref qb, .ref qw])).length) Slot.unset).toArray = ls at hl ⊢
  have hl : lv_has ls 4 [(0, .ref qk), (1, .ref qa), (2, .ref qb), (3, .ref qw)] := hl
  refine lv_aload_n hx hb d_Link_init_0 rfl (lv_at hl 0 rfl) ?_
  refine W.objInit hx hb hown (hts _ k_651) (hts _ k_29) (hts _ k_30) rfl (by rw [hml]; exact hl.1) rfl d_Link_init_1 (Nat.le_of_ble_eq_true rfl) (Nat.le_of_ble_eq_true rfl) ?_
  refine W.eq (g2 := F0 m 4 ls []) rfl ?_
  refine lv_aload_n hx hb d_Link_init_4 rfl (lv_at hl 0 rfl) ?_
  refine lv_null hx hb d_Link_init_5 ?_
  refine va_put (D := (dC, dI)) (ci := 12) (v := .null) (ty := .object "ChipDesk$Wire") (C := R_Link) (T := F_Link) (N := 4) hx hb hts i_Link t_Link t_Link_ok n_Link hown hK hP hD hS 0 rfl rfl 2 (by decide) (hts _ k_658) (fun _ h9 => h9) rfl (by decide +kernel) rfl rfl (Nat.le_of_ble_eq_true rfl) d_Link_init_6 (fun H locs hP hD hS => ?_)
  have hP : va_P (dC, dI) cl [(qk, .inr (12, [v0, v1, .null, v3]))] H := hP
  have hD : va_D A [(qk, .inr (12, [v0, v1, .null, v3]))] := hD
  refine lv_aload_n hx hb d_Link_init_9 rfl (lv_at hl 0 rfl) ?_
  refine lv_aload_n hx hb d_Link_init_10 rfl (lv_at hl 1 rfl) ?_
  refine va_putF (D := (dC, dI)) (ci := 12) (v := .ref qa) (ty := .object "ChipDesk$Side") (C := R_Link) (T := F_Link) (N := 4) hx hb hts i_Link t_Link t_Link_ok n_Link hown hK hP hD hS 0 rfl rfl 0 (by decide) (hts _ k_652) (fun _ h9 => h9) rfl hin rfl (by decide +kernel) rfl rfl (Nat.le_of_ble_eq_true rfl) d_Link_init_11 (fun H locs hP hD hS => ?_)
  have hP : va_P (dC, dI) cl [(qk, .inr (12, [.ref qa, v1, .null, v3]))] H := hP
  have hD : va_D A [(qk, .inr (12, [.ref qa, v1, .null, v3]))] := hD
  refine lv_aload_n hx hb d_Link_init_14 rfl (lv_at hl 0 rfl) ?_
  refine lv_aload_n hx hb d_Link_init_15 rfl (lv_at hl 2 rfl) ?_
  refine va_putF (D := (dC, dI)) (ci := 12) (v := .ref qb) (ty := .object "ChipDesk$Side") (C := R_Link) (T := F_Link) (N := 4) hx hb hts i_Link t_Link t_Link_ok n_Link hown hK hP hD hS 0 rfl rfl 1 (by decide) (hts _ k_655) (fun _ h9 => h9) rfl hin rfl (by decide +kernel) rfl rfl (Nat.le_of_ble_eq_true rfl) d_Link_init_16 (fun H locs hP hD hS => ?_)
  have hP : va_P (dC, dI) cl [(qk, .inr (12, [.ref qa, .ref qb, .null, v3]))] H := hP
  have hD : va_D A [(qk, .inr (12, [.ref qa, .ref qb, .null, v3]))] := hD
  refine lv_aload_n hx hb d_Link_init_19 rfl (lv_at hl 0 rfl) ?_
  refine lv_aload_n hx hb d_Link_init_20 rfl (lv_at hl 3 rfl) ?_
  refine va_putF (D := (dC, dI)) (ci := 12) (v := .ref qw) (ty := .object "ChipDesk$Wire") (C := R_Link) (T := F_Link) (N := 4) hx hb hts i_Link t_Link t_Link_ok n_Link hown hK hP hD hS 0 rfl rfl 3 (by decide) (hts _ k_661) (fun _ h9 => h9) rfl hin rfl (by decide +kernel) rfl rfl (Nat.le_of_ble_eq_true rfl) d_Link_init_21 (fun H locs hP hD hS => ?_)
  have hP : va_P (dC, dI) cl [(qk, .inr (12, [.ref qa, .ref qb, .null, .ref qw]))] H := hP
  have hD : va_D A [(qk, .inr (12, [.ref qa, .ref qb, .null, .ref qw]))] := hD
  exact wr_v hx hb hr hlocks () trivial hK hP hD hS d_Link_init_24
set_option maxHeartbeats 4000000 in
set_option maxRecDepth 100000 in
/-- Link -/
theorem c_Link_initN (l : Launch) (dC : Nat → ClassId) (dI : Nat → Nat → Nat) (cB cI cL cZ cC cO : ClassId) (qk qa qb : Nat) {v0 v1 v2 v3 : Value} (sz : Nat)  : Met l y_Link_init w_Link_init ({ frames := 1, cells := 0, slots := 0, locals := 12 }) (va_Pc [.ref qk, .ref qa, .ref qb, .null] (wB (dC, dI) cl [(cB, .byte), (cI, .int), (cL, .long), (cZ, .boolean), (cC, .char), (cO, .object "java/lang/Object")] sz [(qk, .inr (12, [v0, v1, v2, v3]))])) (va_Qv (fun (u : Unit) => True) (fun _ t => wA (dC, dI) cl [(cB, .byte), (cI, .int), (cL, .long), (cZ, .boolean), (cC, .char), (cO, .object "java/lang/Object")] (va_A [(qk, .inr (12, [v0, v1, v2, v3]))] sz) [(qk, .inr (12, [.ref qa, .ref qb, .null, .null]))] t) (va_A [(qk, .inr (12, [v0, v1, v2, v3]))] sz)) 0 0 (va_A [(qk, .inr (12, [v0, v1, v2, v3]))] sz) := by
  refine Met.ofW (cc := b_Link_init) (maxL := 4) (ret := none) (by decide) rfl ?_
  intro p e s m args below meth c s₁ B hml hv
  obtain ⟨rfl, hsz, hP, hK, hD0, hF⟩ := hv
  have hx := B.exec
  have hb := B.bytes
  have hr := B.returns
  have hts := atoms_spec (ws := w_Link_init) B.pre
  have hts : ∀ w ∈ tb, w.before _ s = true := fun w h => hts w (List.mem_cons_of_mem _ h)
  have hown : s.vm.findClass R_Link = some m.cls := findClass_of_methodNamed B.named
  have hlocks := B.notSynchronized
  have hin : meth.name = "<init>" := (name_of_methodNamed B.named B.method).1
  subst hsz
  have hD := hD0.self (sz := s.heap.size)
  generalize hAe : va_A [(qk, .inr (12, [v0, v1, v2, v3]))] s.heap.size = A at hD hF ⊢
  have hA : ∀ q : Nat, s.heap.size ≤ q → A q := fun q h => by rw [← hAe]; exact Or.inr h
  have hS : va_S A s.heap s.heap [] := va_S.rf
  have hP : va_P (dC, dI) cl [(qk, .inr (12, [v0, v1, v2, v3]))] s.heap := hP
  have hl := lv_entry ([.ref qk, .ref qa, .ref qb, .null]) (n := 4) (Nat.le_of_ble_eq_true rfl)
  rw [lg_entry_eq]
  generalize (lg_sl ([.ref qk, .ref qa, .ref qb, .null]) ++ List.replicate (4 - (lg_sl ([.ref qk, .ref qa, .ref qb, .null])).length) Slot.unset).toArray = ls at hl ⊢
  have hl : lv_has ls 4 [(0, .ref qk), (1, .ref qa), (2, .ref qb), (3, .null)] := hl
  refine lv_aload_n hx hb d_Link_init_0 rfl (lv_at hl 0 rfl) ?_
  refine W.objInit hx hb hown (hts _ k_651) (hts _ k_29) (hts _ k_30) rfl (by rw [hml]; exact hl.1) rfl d_Link_init_1 (Nat.le_of_ble_eq_true rfl) (Nat.le_of_ble_eq_true rfl) ?_
  refine W.eq (g2 := F0 m 4 ls []) rfl ?_
  refine lv_aload_n hx hb d_Link_init_4 rfl (lv_at hl 0 rfl) ?_
  refine lv_null hx hb d_Link_init_5 ?_
  refine va_put (D := (dC, dI)) (ci := 12) (v := .null) (ty := .object "ChipDesk$Wire") (C := R_Link) (T := F_Link) (N := 4) hx hb hts i_Link t_Link t_Link_ok n_Link hown hK hP hD hS 0 rfl rfl 2 (by decide) (hts _ k_658) (fun _ h9 => h9) rfl (by decide +kernel) rfl rfl (Nat.le_of_ble_eq_true rfl) d_Link_init_6 (fun H locs hP hD hS => ?_)
  have hP : va_P (dC, dI) cl [(qk, .inr (12, [v0, v1, .null, v3]))] H := hP
  have hD : va_D A [(qk, .inr (12, [v0, v1, .null, v3]))] := hD
  refine lv_aload_n hx hb d_Link_init_9 rfl (lv_at hl 0 rfl) ?_
  refine lv_aload_n hx hb d_Link_init_10 rfl (lv_at hl 1 rfl) ?_
  refine va_putF (D := (dC, dI)) (ci := 12) (v := .ref qa) (ty := .object "ChipDesk$Side") (C := R_Link) (T := F_Link) (N := 4) hx hb hts i_Link t_Link t_Link_ok n_Link hown hK hP hD hS 0 rfl rfl 0 (by decide) (hts _ k_652) (fun _ h9 => h9) rfl hin rfl (by decide +kernel) rfl rfl (Nat.le_of_ble_eq_true rfl) d_Link_init_11 (fun H locs hP hD hS => ?_)
  have hP : va_P (dC, dI) cl [(qk, .inr (12, [.ref qa, v1, .null, v3]))] H := hP
  have hD : va_D A [(qk, .inr (12, [.ref qa, v1, .null, v3]))] := hD
  refine lv_aload_n hx hb d_Link_init_14 rfl (lv_at hl 0 rfl) ?_
  refine lv_aload_n hx hb d_Link_init_15 rfl (lv_at hl 2 rfl) ?_
  refine va_putF (D := (dC, dI)) (ci := 12) (v := .ref qb) (ty := .object "ChipDesk$Side") (C := R_Link) (T := F_Link) (N := 4) hx hb hts i_Link t_Link t_Link_ok n_Link hown hK hP hD hS 0 rfl rfl 1 (by decide) (hts _ k_655) (fun _ h9 => h9) rfl hin rfl (by decide +kernel) rfl rfl (Nat.le_of_ble_eq_true rfl) d_Link_init_16 (fun H locs hP hD hS => ?_)
  have hP : va_P (dC, dI) cl [(qk, .inr (12, [.ref qa, .ref qb, .null, v3]))] H := hP
  have hD : va_D A [(qk, .inr (12, [.ref qa, .ref qb, .null, v3]))] := hD
  refine lv_aload_n hx hb d_Link_init_19 rfl (lv_at hl 0 rfl) ?_
  refine lv_aload_nN hx hb d_Link_init_20 rfl (lv_at hl 3 rfl) ?_
  refine va_putF (D := (dC, dI)) (ci := 12) (v := .null) (ty := .object "ChipDesk$Wire") (C := R_Link) (T := F_Link) (N := 4) hx hb hts i_Link t_Link t_Link_ok n_Link hown hK hP hD hS 0 rfl rfl 3 (by decide) (hts _ k_661) (fun _ h9 => h9) rfl hin rfl (by decide +kernel) rfl rfl (Nat.le_of_ble_eq_true rfl) d_Link_init_21 (fun H locs hP hD hS => ?_)
  have hP : va_P (dC, dI) cl [(qk, .inr (12, [.ref qa, .ref qb, .null, .null]))] H := hP
  have hD : va_D A [(qk, .inr (12, [.ref qa, .ref qb, .null, .null]))] := hD
  exact wr_v hx hb hr hlocks () trivial hK hP hD hS d_Link_init_24
