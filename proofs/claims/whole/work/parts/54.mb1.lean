theorem d_Model_isTrue_0 : decode b_Model_isTrue 0 = .ok (.aload_n 0, 1) := by decide +kernel
theorem d_Model_isTrue_1 : decode b_Model_isTrue 1 = .ok (.getfield 30, 3) := by decide +kernel
theorem d_Model_isTrue_4 : decode b_Model_isTrue 4 = .ok (.iload_n 1, 1) := by decide +kernel
theorem d_Model_isTrue_5 : decode b_Model_isTrue 5 = .ok (.iaload, 1) := by decide +kernel
theorem d_Model_isTrue_6 : decode b_Model_isTrue 6 = .ok (.iconst 4, 1) := by decide +kernel
theorem d_Model_isTrue_7 : decode b_Model_isTrue 7 = .ok (.if_icmp .ne 8, 3) := by decide +kernel
theorem d_Model_isTrue_10 : decode b_Model_isTrue 10 = .ok (.bipush (-2), 2) := by decide +kernel
theorem d_Model_isTrue_12 : decode b_Model_isTrue 12 = .ok (.goto 4, 3) := by decide +kernel
theorem d_Model_isTrue_15 : decode b_Model_isTrue 15 = .ok (.iconst (-1), 1) := by decide +kernel
theorem d_Model_isTrue_16 : decode b_Model_isTrue 16 = .ok (.ireturn, 1) := by decide +kernel
set_option maxHeartbeats 4000000 in
set_option maxRecDepth 100000 in
/-- isTrue(t) -/
theorem c_Model_isTrue (l : Launch) (dC : Nat → ClassId) (dI : Nat → Nat → Nat) (cB cI cL cZ cC cO : ClassId) {qm q_tokValue : Nat}{f0 f1 f2 f3 f4 f5 f6 f7 f8 f9 f11 f12 f13 f14 f15 f16 f17 f18 f19 f20 f21 f22 f23 f24 f25 f26 f27 f28 f29 f30 f31 f32 f33 f34 f35 f36 f37 f38 f39 f40 f41 f42 f43 f44 f45 f46 f47 f48 f49 f50 f51 f52 f53 f54 f55 f56 f57 f58 f59 f60 f61 f62 f63 f64 f65 f66 f67 f68 f69 f70 : Value} (tv : Nat → Int32) (t : Nat) (sz : Nat) (ht : t < 1002) : Met l y_Model_isTrue w_Model_isTrue ({ frames := 0, cells := 0, slots := 0, locals := 0 }) (va_Pc [.ref qm, .int (nI t)] (wB (dC, dI) cl [(cB, .byte), (cI, .int), (cL, .long), (cZ, .boolean), (cC, .char), (cO, .object "java/lang/Object")] sz [(qm, .inr (13, [f0, f1, f2, f3, f4, f5, f6, f7, f8, f9, .ref q_tokValue, f11, f12, f13, f14, f15, f16, f17, f18, f19, f20, f21, f22, f23, f24, f25, f26, f27, f28, f29, f30, f31, f32, f33, f34, f35, f36, f37, f38, f39, f40, f41, f42, f43, f44, f45, f46, f47, f48, f49, f50, f51, f52, f53, f54, f55, f56, f57, f58, f59, f60, f61, f62, f63, f64, f65, f66, f67, f68, f69, f70])), (q_tokValue, .inl (cI, 1002, .inl tv))])) (va_Qi (fun (r : Int32) (u : Unit) => r = zI (if tv t = nI 4 then 0 else 1)) (fun _ t => wA (dC, dI) cl [(cB, .byte), (cI, .int), (cL, .long), (cZ, .boolean), (cC, .char), (cO, .object "java/lang/Object")] (va_A [(qm, .inr (13, [f0, f1, f2, f3, f4, f5, f6, f7, f8, f9, .ref q_tokValue, f11, f12, f13, f14, f15, f16, f17, f18, f19, f20, f21, f22, f23, f24, f25, f26, f27, f28, f29, f30, f31, f32, f33, f34, f35, f36, f37, f38, f39, f40, f41, f42, f43, f44, f45, f46, f47, f48, f49, f50, f51, f52, f53, f54, f55, f56, f57, f58, f59, f60, f61, f62, f63, f64, f65, f66, f67, f68, f69, f70])), (q_tokValue, .inl (cI, 1002, .inl tv))] sz) [(qm, .inr (13, [f0, f1, f2, f3, f4, f5, f6, f7, f8, f9, .ref q_tokValue, f11, f12, f13, f14, f15, f16, f17, f18, f19, f20, f21, f22, f23, f24, f25, f26, f27, f28, f29, f30, f31, f32, f33, f34, f35, f36, f37, f38, f39, f40, f41, f42, f43, f44, f45, f46, f47, f48, f49, f50, f51, f52, f53, f54, f55, f56, f57, f58, f59, f60, f61, f62, f63, f64, f65, f66, f67, f68, f69, f70])), (q_tokValue, .inl (cI, 1002, .inl tv))] t) (va_A [(qm, .inr (13, [f0, f1, f2, f3, f4, f5, f6, f7, f8, f9, .ref q_tokValue, f11, f12, f13, f14, f15, f16, f17, f18, f19, f20, f21, f22, f23, f24, f25, f26, f27, f28, f29, f30, f31, f32, f33, f34, f35, f36, f37, f38, f39, f40, f41, f42, f43, f44, f45, f46, f47, f48, f49, f50, f51, f52, f53, f54, f55, f56, f57, f58, f59, f60, f61, f62, f63, f64, f65, f66, f67, f68, f69, f70])), (q_tokValue, .inl (cI, 1002, .inl tv))] sz)) 0 0 (va_A [(qm, .inr (13, [f0, f1, f2, f3, f4, f5, f6, f7, f8, f9, .ref q_tokValue, f11, f12, f13, f14, f15, f16, f17, f18, f19, f20, f21, f22, f23, f24, f25, f26, f27, f28, f29, f30, f31, f32, f33, f34, f35, f36, f37, f38, f39, f40, f41, f42, f43, f44, f45, f46, f47, f48, f49, f50, f51, f52, f53, f54, f55, f56, f57, f58, f59, f60, f61, f62, f63, f64, f65, f66, f67, f68, f69, f70])), (q_tokValue, .inl (cI, 1002, .inl tv))] sz) := by
  refine Met.ofW (cc := b_Model_isTrue) (maxL := 2) (ret := (some ClassFile.FieldType.int)) (by decide) rfl ?_
  intro p e s m args below meth c s₁ B hml hv
  obtain ⟨rfl, hsz, hP, hK, hD0, hF⟩ := hv
  have hx := B.exec
  have hb := B.bytes
  have hr := B.returns
  have hts := atoms_spec (ws := w_Model_isTrue) B.pre
  have hts : ∀ w ∈ tb, w.before _ s = true := fun w h => hts w (List.mem_cons_of_mem _ h)
  have hown : s.vm.findClass R_Model = some m.cls := findClass_of_methodNamed B.named
  have hlocks := B.notSynchronized
  subst hsz
  have hD := hD0.self (sz := s.heap.size)
  generalize hAe : va_A [(qm, .inr (13, [f0, f1, f2, f3, f4, f5, f6, f7, f8, f9, .ref q_tokValue, f11, f12, f13, f14, f15, f16, f17, f18, f19, f20, f21, f22, f23, f24, f25, f26, f27, f28, f29, f30, f31, f32, f33, f34, f35, f36, f37, f38, f39, f40, f41, f42, f43, f44, f45, f46, f47, f48, f49, f50, f51, f52, f53, f54, f55, f56, f57, f58, f59, f60, f61, f62, f63, f64, f65, f66, f67, f68, f69, f70])), (q_tokValue, .inl (cI, 1002, .inl tv))] s.heap.size = A at hD hF ⊢
  have hA : ∀ q : Nat, s.heap.size ≤ q → A q := fun q h => by rw [← hAe]; exact Or.inr h
  have hS : va_S A s.heap s.heap [] := va_S.rf
  have hP : va_P (dC, dI) cl [(qm, .inr (13, [f0, f1, f2, f3, f4, f5, f6, f7, f8, f9, .ref q_tokValue, f11, f12, f13, f14, f15, f16, f17, f18, f19, f20, f21, f22, f23, f24, f25, f26, f27, f28, f29, f30, f31, f32, f33, f34, f35, f36, f37, f38, f39, f40, f41, f42, f43, f44, f45, f46, f47, f48, f49, f50, f51, f52, f53, f54, f55, f56, f57, f58, f59, f60, f61, f62, f63, f64, f65, f66, f67, f68, f69, f70])), (q_tokValue, .inl (cI, 1002, .inl tv))] s.heap := hP
  have hl := lv_entry ([.ref qm, .int (nI t)]) (n := 2) (Nat.le_of_ble_eq_true rfl)
  rw [lg_entry_eq]
  generalize (lg_sl ([.ref qm, .int (nI t)]) ++ List.replicate (2 - (lg_sl ([.ref qm, .int (nI t)])).length) Slot.unset).toArray = ls at hl ⊢
  have hl : lv_has ls 2 [(0, .ref qm), (1, .int (nI t))] := hl
  refine lv_aload_n hx hb d_Model_isTrue_0 rfl (lv_at hl 0 rfl) ?_
  refine va_get (D := (dC, dI)) (ci := 13) (v := .ref q_tokValue) (C := R_Model) (T := F_Model) (N := 71) hx hb hts i_Model hown hK hP 0 rfl rfl 10 (by decide) (hts _ k_884) (fun _ h9 => h9) rfl d_Model_isTrue_1 ?_
  refine lv_iload_n hx hb d_Model_isTrue_4 rfl (lv_at hl 1 rfl) ?_
  refine nv_iald hx hb hK hP 1 1 rfl rfl (by omega) (by decide) d_Model_isTrue_5 ?_
  refine lv_iconst (v := nI 4) hx hb d_Model_isTrue_6 (by decide) ?_
  refine lv_icmp_ne (tgt := 15) hx hb d_Model_isTrue_7 (by decide) (fun c_1 => ?_) (fun c_1 => ?_)
  · refine lv_iconst (v := (-1)) hx hb d_Model_isTrue_15 (by decide) ?_
    exact wr_i hx hb hr hlocks () (by rw [if_neg c_1]; rfl) hK hP hD hS d_Model_isTrue_16
  · refine lv_bipush (v := (-2)) hx hb d_Model_isTrue_10 (by decide) ?_
    refine lv_goto (tgt := 16) hx hb d_Model_isTrue_12 (by decide) ?_
    exact wr_i hx hb hr hlocks () (by rw [if_pos c_1]; rfl) hK hP hD hS d_Model_isTrue_16
def vo (bv : Nat → Nat) (v : Nat) : Nat := if v = 0 then 1 else if v < 2 then 0 else bv (v - 2)
theorem vo_le {bv : Nat → Nat} (h : ∀ i, bv i ≤ 1) (v : Nat) : vo bv v ≤ 1 := by
  unfold vo; split
  · omega
  · split
    · omega
    · exact h _
theorem d_Model_valueOf_0 : decode b_Model_valueOf 0 = .ok (.iload_n 1, 1) := by decide +kernel
theorem d_Model_valueOf_1 : decode b_Model_valueOf 1 = .ok (.bipush (-2), 2) := by decide +kernel
theorem d_Model_valueOf_3 : decode b_Model_valueOf 3 = .ok (.if_icmp .ne 7, 3) := by decide +kernel
theorem d_Model_valueOf_6 : decode b_Model_valueOf 6 = .ok (.iconst 1, 1) := by decide +kernel
theorem d_Model_valueOf_7 : decode b_Model_valueOf 7 = .ok (.goto 17, 3) := by decide +kernel
theorem d_Model_valueOf_10 : decode b_Model_valueOf 10 = .ok (.iload_n 1, 1) := by decide +kernel
theorem d_Model_valueOf_11 : decode b_Model_valueOf 11 = .ok (.ifCond .ge 7, 3) := by decide +kernel
theorem d_Model_valueOf_14 : decode b_Model_valueOf 14 = .ok (.iconst 0, 1) := by decide +kernel
theorem d_Model_valueOf_15 : decode b_Model_valueOf 15 = .ok (.goto 9, 3) := by decide +kernel
theorem d_Model_valueOf_18 : decode b_Model_valueOf 18 = .ok (.aload_n 0, 1) := by decide +kernel
theorem d_Model_valueOf_19 : decode b_Model_valueOf 19 = .ok (.getfield 146, 3) := by decide +kernel
theorem d_Model_valueOf_22 : decode b_Model_valueOf 22 = .ok (.iload_n 1, 1) := by decide +kernel
theorem d_Model_valueOf_23 : decode b_Model_valueOf 23 = .ok (.iaload, 1) := by decide +kernel
theorem d_Model_valueOf_24 : decode b_Model_valueOf 24 = .ok (.ireturn, 1) := by decide +kernel
set_option maxHeartbeats 4000000 in
set_option maxRecDepth 100000 in
/-- valueOf(v) -/
theorem c_Model_valueOf (l : Launch) (dC : Nat → ClassId) (dI : Nat → Nat → Nat) (cB cI cL cZ cC cO : ClassId) {qm q_bitValue : Nat}{f0 f1 f2 f3 f4 f5 f6 f7 f8 f9 f10 f11 f12 f13 f14 f15 f16 f17 f18 f19 f20 f21 f22 f23 f24 f25 f26 f27 f28 f29 f30 f31 f32 f33 f34 f35 f36 f37 f38 f39 f40 f41 f42 f43 f44 f45 f46 f47 f48 f49 f50 f51 f52 f53 f54 f55 f56 f57 f58 f59 f60 f61 f62 f63 f65 f66 f67 f68 f69 f70 : Value} (bv : Nat → Nat) (v : Nat) (sz : Nat) (hv : v < 8002) : Met l y_Model_valueOf w_Model_valueOf ({ frames := 0, cells := 0, slots := 0, locals := 0 }) (va_Pc [.ref qm, .int (zI v)] (wB (dC, dI) cl [(cB, .byte), (cI, .int), (cL, .long), (cZ, .boolean), (cC, .char), (cO, .object "java/lang/Object")] sz [(qm, .inr (13, [f0, f1, f2, f3, f4, f5, f6, f7, f8, f9, f10, f11, f12, f13, f14, f15, f16, f17, f18, f19, f20, f21, f22, f23, f24, f25, f26, f27, f28, f29, f30, f31, f32, f33, f34, f35, f36, f37, f38, f39, f40, f41, f42, f43, f44, f45, f46, f47, f48, f49, f50, f51, f52, f53, f54, f55, f56, f57, f58, f59, f60, f61, f62, f63, .ref q_bitValue, f65, f66, f67, f68, f69, f70])), (q_bitValue, .inl (cI, 8000, .inl (nF bv)))])) (va_Qi (fun (r : Int32) (u : Unit) => r = nI (vo bv v)) (fun _ t => wA (dC, dI) cl [(cB, .byte), (cI, .int), (cL, .long), (cZ, .boolean), (cC, .char), (cO, .object "java/lang/Object")] (va_A [(qm, .inr (13, [f0, f1, f2, f3, f4, f5, f6, f7, f8, f9, f10, f11, f12, f13, f14, f15, f16, f17, f18, f19, f20, f21, f22, f23, f24, f25, f26, f27, f28, f29, f30, f31, f32, f33, f34, f35, f36, f37, f38, f39, f40, f41, f42, f43, f44, f45, f46, f47, f48, f49, f50, f51, f52, f53, f54, f55, f56, f57, f58, f59, f60, f61, f62, f63, .ref q_bitValue, f65, f66, f67, f68, f69, f70])), (q_bitValue, .inl (cI, 8000, .inl (nF bv)))] sz) [(qm, .inr (13, [f0, f1, f2, f3, f4, f5, f6, f7, f8, f9, f10, f11, f12, f13, f14, f15, f16, f17, f18, f19, f20, f21, f22, f23, f24, f25, f26, f27, f28, f29, f30, f31, f32, f33, f34, f35, f36, f37, f38, f39, f40, f41, f42, f43, f44, f45, f46, f47, f48, f49, f50, f51, f52, f53, f54, f55, f56, f57, f58, f59, f60, f61, f62, f63, .ref q_bitValue, f65, f66, f67, f68, f69, f70])), (q_bitValue, .inl (cI, 8000, .inl (nF bv)))] t) (va_A [(qm, .inr (13, [f0, f1, f2, f3, f4, f5, f6, f7, f8, f9, f10, f11, f12, f13, f14, f15, f16, f17, f18, f19, f20, f21, f22, f23, f24, f25, f26, f27, f28, f29, f30, f31, f32, f33, f34, f35, f36, f37, f38, f39, f40, f41, f42, f43, f44, f45, f46, f47, f48, f49, f50, f51, f52, f53, f54, f55, f56, f57, f58, f59, f60, f61, f62, f63, .ref q_bitValue, f65, f66, f67, f68, f69, f70])), (q_bitValue, .inl (cI, 8000, .inl (nF bv)))] sz)) 0 0 (va_A [(qm, .inr (13, [f0, f1, f2, f3, f4, f5, f6, f7, f8, f9, f10, f11, f12, f13, f14, f15, f16, f17, f18, f19, f20, f21, f22, f23, f24, f25, f26, f27, f28, f29, f30, f31, f32, f33, f34, f35, f36, f37, f38, f39, f40, f41, f42, f43, f44, f45, f46, f47, f48, f49, f50, f51, f52, f53, f54, f55, f56, f57, f58, f59, f60, f61, f62, f63, .ref q_bitValue, f65, f66, f67, f68, f69, f70])), (q_bitValue, .inl (cI, 8000, .inl (nF bv)))] sz) := by
  refine Met.ofW (cc := b_Model_valueOf) (maxL := 2) (ret := (some ClassFile.FieldType.int)) (by decide) rfl ?_
  intro p e s m args below meth c s₁ B hml hv
  obtain ⟨rfl, hsz, hP, hK, hD0, hF⟩ := hv
  have hx := B.exec
  have hb := B.bytes
  have hr := B.returns
  have hts := atoms_spec (ws := w_Model_valueOf) B.pre
  have hts : ∀ w ∈ tb, w.before _ s = true := fun w h => hts w (List.mem_cons_of_mem _ h)
  have hown : s.vm.findClass R_Model = some m.cls := findClass_of_methodNamed B.named
  have hlocks := B.notSynchronized
  subst hsz
  have hD := hD0.self (sz := s.heap.size)
  generalize hAe : va_A [(qm, .inr (13, [f0, f1, f2, f3, f4, f5, f6, f7, f8, f9, f10, f11, f12, f13, f14, f15, f16, f17, f18, f19, f20, f21, f22, f23, f24, f25, f26, f27, f28, f29, f30, f31, f32, f33, f34, f35, f36, f37, f38, f39, f40, f41, f42, f43, f44, f45, f46, f47, f48, f49, f50, f51, f52, f53, f54, f55, f56, f57, f58, f59, f60, f61, f62, f63, .ref q_bitValue, f65, f66, f67, f68, f69, f70])), (q_bitValue, .inl (cI, 8000, .inl (nF bv)))] s.heap.size = A at hD hF ⊢
  have hA : ∀ q : Nat, s.heap.size ≤ q → A q := fun q h => by rw [← hAe]; exact Or.inr h
  have hS : va_S A s.heap s.heap [] := va_S.rf
  have hP : va_P (dC, dI) cl [(qm, .inr (13, [f0, f1, f2, f3, f4, f5, f6, f7, f8, f9, f10, f11, f12, f13, f14, f15, f16, f17, f18, f19, f20, f21, f22, f23, f24, f25, f26, f27, f28, f29, f30, f31, f32, f33, f34, f35, f36, f37, f38, f39, f40, f41, f42, f43, f44, f45, f46, f47, f48, f49, f50, f51, f52, f53, f54, f55, f56, f57, f58, f59, f60, f61, f62, f63, .ref q_bitValue, f65, f66, f67, f68, f69, f70])), (q_bitValue, .inl (cI, 8000, .inl (nF bv)))] s.heap := hP
  have hl := lv_entry ([.ref qm, .int (zI v)]) (n := 2) (Nat.le_of_ble_eq_true rfl)
  rw [lg_entry_eq]
  generalize (lg_sl ([.ref qm, .int (zI v)]) ++ List.replicate (2 - (lg_sl ([.ref qm, .int (zI v)])).length) Slot.unset).toArray = ls at hl ⊢
  have hl : lv_has ls 2 [(0, .ref qm), (1, .int (zI v))] := hl
  refine lv_iload_n hx hb d_Model_valueOf_0 rfl (lv_at hl 1 rfl) ?_
  refine lv_bipush (v := (-2)) hx hb d_Model_valueOf_1 (by decide) ?_
  refine nv_c2icmp_ne (tgt := 10) hx hb (by omega) d_Model_valueOf_3 (by decide) (fun c_1 => ?_) (fun c_1 => ?_)
  · refine lv_iload_n hx hb d_Model_valueOf_10 rfl (lv_at hl 1 rfl) ?_
    refine nv_cif_ge (tgt := 18) hx hb (by omega) d_Model_valueOf_11 (by decide) (fun c_2 => ?_) (fun c_2 => ?_)
    · rw [zI_n c_2] at hl
      refine lv_aload_n hx hb d_Model_valueOf_18 rfl (lv_at hl 0 rfl) ?_
      refine va_get (D := (dC, dI)) (ci := 13) (v := .ref q_bitValue) (C := R_Model) (T := F_Model) (N := 71) hx hb hts i_Model hown hK hP 0 rfl rfl 64 (by decide) (hts _ k_938) (fun _ h9 => h9) rfl d_Model_valueOf_19 ?_
      refine lv_iload_n hx hb d_Model_valueOf_22 rfl (lv_at hl 1 rfl) ?_
      refine nv_iald hx hb hK hP 1 1 rfl rfl (by omega) (by decide) d_Model_valueOf_23 ?_
      exact wr_i hx hb hr hlocks () (by unfold vo; rw [if_neg c_1, if_neg (by omega)]) hK hP hD hS d_Model_valueOf_24
    · refine lv_iconst (v := nI 0) hx hb d_Model_valueOf_14 (by decide) ?_
      refine lv_goto (tgt := 24) hx hb d_Model_valueOf_15 (by decide) ?_
      exact wr_i hx hb hr hlocks () (by unfold vo; rw [if_neg c_1, if_pos c_2]) hK hP hD hS d_Model_valueOf_24
  · refine lv_iconst (v := nI 1) hx hb d_Model_valueOf_6 (by decide) ?_
    refine lv_goto (tgt := 24) hx hb d_Model_valueOf_7 (by decide) ?_
    exact wr_i hx hb hr hlocks () (by unfold vo; rw [if_pos c_1]) hK hP hD hS d_Model_valueOf_24
def lo (gb : Nat → Nat) (gd : Nat → Bool) (gl : Nat → Option Nat) (v : Nat) : Option Nat := if v < 2 then some 0 else if gb (v - 2) = 0 then some 0 else if gd (gb (v - 2) - 1) = true then some 0 else gl (gb (v - 2) - 1)
theorem d_Model_levelOf_0 : decode b_Model_levelOf 0 = .ok (.iload_n 1, 1) := by decide +kernel
theorem d_Model_levelOf_1 : decode b_Model_levelOf 1 = .ok (.ifCond .lt 28, 3) := by decide +kernel
theorem d_Model_levelOf_4 : decode b_Model_levelOf 4 = .ok (.aload_n 0, 1) := by decide +kernel
theorem d_Model_levelOf_5 : decode b_Model_levelOf 5 = .ok (.getfield 125, 3) := by decide +kernel
theorem d_Model_levelOf_8 : decode b_Model_levelOf 8 = .ok (.iload_n 1, 1) := by decide +kernel
theorem d_Model_levelOf_9 : decode b_Model_levelOf 9 = .ok (.iaload, 1) := by decide +kernel
theorem d_Model_levelOf_10 : decode b_Model_levelOf 10 = .ok (.ifCond .eq 19, 3) := by decide +kernel
theorem d_Model_levelOf_13 : decode b_Model_levelOf 13 = .ok (.aload_n 0, 1) := by decide +kernel
theorem d_Model_levelOf_14 : decode b_Model_levelOf 14 = .ok (.getfield 128, 3) := by decide +kernel
theorem d_Model_levelOf_17 : decode b_Model_levelOf 17 = .ok (.aload_n 0, 1) := by decide +kernel
theorem d_Model_levelOf_18 : decode b_Model_levelOf 18 = .ok (.getfield 125, 3) := by decide +kernel
theorem d_Model_levelOf_21 : decode b_Model_levelOf 21 = .ok (.iload_n 1, 1) := by decide +kernel
theorem d_Model_levelOf_22 : decode b_Model_levelOf 22 = .ok (.iaload, 1) := by decide +kernel
theorem d_Model_levelOf_23 : decode b_Model_levelOf 23 = .ok (.iconst 1, 1) := by decide +kernel
theorem d_Model_levelOf_24 : decode b_Model_levelOf 24 = .ok (.isub, 1) := by decide +kernel
theorem d_Model_levelOf_25 : decode b_Model_levelOf 25 = .ok (.baload, 1) := by decide +kernel
theorem d_Model_levelOf_26 : decode b_Model_levelOf 26 = .ok (.ifCond .eq 5, 3) := by decide +kernel
theorem d_Model_levelOf_29 : decode b_Model_levelOf 29 = .ok (.iconst 0, 1) := by decide +kernel
theorem d_Model_levelOf_30 : decode b_Model_levelOf 30 = .ok (.ireturn, 1) := by decide +kernel
theorem d_Model_levelOf_31 : decode b_Model_levelOf 31 = .ok (.aload_n 0, 1) := by decide +kernel
theorem d_Model_levelOf_32 : decode b_Model_levelOf 32 = .ok (.getfield 134, 3) := by decide +kernel
theorem d_Model_levelOf_35 : decode b_Model_levelOf 35 = .ok (.aload_n 0, 1) := by decide +kernel
theorem d_Model_levelOf_36 : decode b_Model_levelOf 36 = .ok (.getfield 125, 3) := by decide +kernel
theorem d_Model_levelOf_39 : decode b_Model_levelOf 39 = .ok (.iload_n 1, 1) := by decide +kernel
theorem d_Model_levelOf_40 : decode b_Model_levelOf 40 = .ok (.iaload, 1) := by decide +kernel
theorem d_Model_levelOf_41 : decode b_Model_levelOf 41 = .ok (.iconst 1, 1) := by decide +kernel
theorem d_Model_levelOf_42 : decode b_Model_levelOf 42 = .ok (.isub, 1) := by decide +kernel
theorem d_Model_levelOf_43 : decode b_Model_levelOf 43 = .ok (.iaload, 1) := by decide +kernel
theorem d_Model_levelOf_44 : decode b_Model_levelOf 44 = .ok (.ireturn, 1) := by decide +kernel
set_option maxHeartbeats 4000000 in
set_option maxRecDepth 100000 in
/-- levelOf(v) -/
theorem c_Model_levelOf (l : Launch) (dC : Nat → ClassId) (dI : Nat → Nat → Nat) (cB cI cL cZ cC cO : ClassId) {qm q_gateOfBit q_gateDff q_gateLevel : Nat}{f0 f1 f2 f3 f4 f5 f6 f7 f8 f9 f10 f11 f12 f13 f14 f15 f16 f17 f18 f19 f20 f21 f22 f23 f24 f25 f26 f27 f28 f29 f30 f31 f32 f33 f34 f35 f36 f37 f38 f39 f40 f41 f42 f43 f44 f45 f46 f47 f48 f49 f50 f51 f52 f53 f54 f56 f58 f60 f61 f62 f63 f64 f65 f66 f67 f68 f69 f70 : Value} (gb : Nat → Nat) (gd : Nat → Bool) (gl : Nat → Option Nat) (v : Nat) (sz : Nat) (hv : v < 8002) (hgb : ∀ i, gb i ≤ 300) : Met l y_Model_levelOf w_Model_levelOf ({ frames := 0, cells := 0, slots := 0, locals := 0 }) (va_Pc [.ref qm, .int (zI v)] (wB (dC, dI) cl [(cB, .byte), (cI, .int), (cL, .long), (cZ, .boolean), (cC, .char), (cO, .object "java/lang/Object")] sz [(qm, .inr (13, [f0, f1, f2, f3, f4, f5, f6, f7, f8, f9, f10, f11, f12, f13, f14, f15, f16, f17, f18, f19, f20, f21, f22, f23, f24, f25, f26, f27, f28, f29, f30, f31, f32, f33, f34, f35, f36, f37, f38, f39, f40, f41, f42, f43, f44, f45, f46, f47, f48, f49, f50, f51, f52, f53, f54, .ref q_gateOfBit, f56, .ref q_gateDff, f58, .ref q_gateLevel, f60, f61, f62, f63, f64, f65, f66, f67, f68, f69, f70])), (q_gateOfBit, .inl (cI, 8000, .inl (nF gb))), (q_gateDff, .inl (cZ, 300, .inl (bF gd))), (q_gateLevel, .inl (cI, 300, .inl (oF gl)))])) (va_Qi (fun (r : Int32) (u : Unit) => r = oI (lo gb gd gl v)) (fun _ t => wA (dC, dI) cl [(cB, .byte), (cI, .int), (cL, .long), (cZ, .boolean), (cC, .char), (cO, .object "java/lang/Object")] (va_A [(qm, .inr (13, [f0, f1, f2, f3, f4, f5, f6, f7, f8, f9, f10, f11, f12, f13, f14, f15, f16, f17, f18, f19, f20, f21, f22, f23, f24, f25, f26, f27, f28, f29, f30, f31, f32, f33, f34, f35, f36, f37, f38, f39, f40, f41, f42, f43, f44, f45, f46, f47, f48, f49, f50, f51, f52, f53, f54, .ref q_gateOfBit, f56, .ref q_gateDff, f58, .ref q_gateLevel, f60, f61, f62, f63, f64, f65, f66, f67, f68, f69, f70])), (q_gateOfBit, .inl (cI, 8000, .inl (nF gb))), (q_gateDff, .inl (cZ, 300, .inl (bF gd))), (q_gateLevel, .inl (cI, 300, .inl (oF gl)))] sz) [(qm, .inr (13, [f0, f1, f2, f3, f4, f5, f6, f7, f8, f9, f10, f11, f12, f13, f14, f15, f16, f17, f18, f19, f20, f21, f22, f23, f24, f25, f26, f27, f28, f29, f30, f31, f32, f33, f34, f35, f36, f37, f38, f39, f40, f41, f42, f43, f44, f45, f46, f47, f48, f49, f50, f51, f52, f53, f54, .ref q_gateOfBit, f56, .ref q_gateDff, f58, .ref q_gateLevel, f60, f61, f62, f63, f64, f65, f66, f67, f68, f69, f70])), (q_gateOfBit, .inl (cI, 8000, .inl (nF gb))), (q_gateDff, .inl (cZ, 300, .inl (bF gd))), (q_gateLevel, .inl (cI, 300, .inl (oF gl)))] t) (va_A [(qm, .inr (13, [f0, f1, f2, f3, f4, f5, f6, f7, f8, f9, f10, f11, f12, f13, f14, f15, f16, f17, f18, f19, f20, f21, f22, f23, f24, f25, f26, f27, f28, f29, f30, f31, f32, f33, f34, f35, f36, f37, f38, f39, f40, f41, f42, f43, f44, f45, f46, f47, f48, f49, f50, f51, f52, f53, f54, .ref q_gateOfBit, f56, .ref q_gateDff, f58, .ref q_gateLevel, f60, f61, f62, f63, f64, f65, f66, f67, f68, f69, f70])), (q_gateOfBit, .inl (cI, 8000, .inl (nF gb))), (q_gateDff, .inl (cZ, 300, .inl (bF gd))), (q_gateLevel, .inl (cI, 300, .inl (oF gl)))] sz)) 0 0 (va_A [(qm, .inr (13, [f0, f1, f2, f3, f4, f5, f6, f7, f8, f9, f10, f11, f12, f13, f14, f15, f16, f17, f18, f19, f20, f21, f22, f23, f24, f25, f26, f27, f28, f29, f30, f31, f32, f33, f34, f35, f36, f37, f38, f39, f40, f41, f42, f43, f44, f45, f46, f47, f48, f49, f50, f51, f52, f53, f54, .ref q_gateOfBit, f56, .ref q_gateDff, f58, .ref q_gateLevel, f60, f61, f62, f63, f64, f65, f66, f67, f68, f69, f70])), (q_gateOfBit, .inl (cI, 8000, .inl (nF gb))), (q_gateDff, .inl (cZ, 300, .inl (bF gd))), (q_gateLevel, .inl (cI, 300, .inl (oF gl)))] sz) := by
  refine Met.ofW (cc := b_Model_levelOf) (maxL := 2) (ret := (some ClassFile.FieldType.int)) (by decide) rfl ?_
  intro p e s m args below meth c s₁ B hml hv
  obtain ⟨rfl, hsz, hP, hK, hD0, hF⟩ := hv
  have hx := B.exec
  have hb := B.bytes
  have hr := B.returns
  have hts := atoms_spec (ws := w_Model_levelOf) B.pre
  have hts : ∀ w ∈ tb, w.before _ s = true := fun w h => hts w (List.mem_cons_of_mem _ h)
  have hown : s.vm.findClass R_Model = some m.cls := findClass_of_methodNamed B.named
  have hlocks := B.notSynchronized
  subst hsz
  have hD := hD0.self (sz := s.heap.size)
  generalize hAe : va_A [(qm, .inr (13, [f0, f1, f2, f3, f4, f5, f6, f7, f8, f9, f10, f11, f12, f13, f14, f15, f16, f17, f18, f19, f20, f21, f22, f23, f24, f25, f26, f27, f28, f29, f30, f31, f32, f33, f34, f35, f36, f37, f38, f39, f40, f41, f42, f43, f44, f45, f46, f47, f48, f49, f50, f51, f52, f53, f54, .ref q_gateOfBit, f56, .ref q_gateDff, f58, .ref q_gateLevel, f60, f61, f62, f63, f64, f65, f66, f67, f68, f69, f70])), (q_gateOfBit, .inl (cI, 8000, .inl (nF gb))), (q_gateDff, .inl (cZ, 300, .inl (bF gd))), (q_gateLevel, .inl (cI, 300, .inl (oF gl)))] s.heap.size = A at hD hF ⊢
  have hA : ∀ q : Nat, s.heap.size ≤ q → A q := fun q h => by rw [← hAe]; exact Or.inr h
  have hS : va_S A s.heap s.heap [] := va_S.rf
  have hP : va_P (dC, dI) cl [(qm, .inr (13, [f0, f1, f2, f3, f4, f5, f6, f7, f8, f9, f10, f11, f12, f13, f14, f15, f16, f17, f18, f19, f20, f21, f22, f23, f24, f25, f26, f27, f28, f29, f30, f31, f32, f33, f34, f35, f36, f37, f38, f39, f40, f41, f42, f43, f44, f45, f46, f47, f48, f49, f50, f51, f52, f53, f54, .ref q_gateOfBit, f56, .ref q_gateDff, f58, .ref q_gateLevel, f60, f61, f62, f63, f64, f65, f66, f67, f68, f69, f70])), (q_gateOfBit, .inl (cI, 8000, .inl (nF gb))), (q_gateDff, .inl (cZ, 300, .inl (bF gd))), (q_gateLevel, .inl (cI, 300, .inl (oF gl)))] s.heap := hP
  have hl := lv_entry ([.ref qm, .int (zI v)]) (n := 2) (Nat.le_of_ble_eq_true rfl)
  rw [lg_entry_eq]
  generalize (lg_sl ([.ref qm, .int (zI v)]) ++ List.replicate (2 - (lg_sl ([.ref qm, .int (zI v)])).length) Slot.unset).toArray = ls at hl ⊢
  have hl : lv_has ls 2 [(0, .ref qm), (1, .int (zI v))] := hl
  refine lv_iload_n hx hb d_Model_levelOf_0 rfl (lv_at hl 1 rfl) ?_
  refine nv_cif_lt (tgt := 29) hx hb (by omega) d_Model_levelOf_1 (by decide) (fun c_1 => ?_) (fun c_1 => ?_)
  · refine lv_iconst (v := nI 0) hx hb d_Model_levelOf_29 (by decide) ?_
    exact wr_i hx hb hr hlocks () (by unfold lo; rw [if_pos c_1]; rfl) hK hP hD hS d_Model_levelOf_30
  · rw [zI_n c_1] at hl
    have hgv := hgb (v - 2)
    refine lv_aload_n hx hb d_Model_levelOf_4 rfl (lv_at hl 0 rfl) ?_
    refine va_get (D := (dC, dI)) (ci := 13) (v := .ref q_gateOfBit) (C := R_Model) (T := F_Model) (N := 71) hx hb hts i_Model hown hK hP 0 rfl rfl 55 (by decide) (hts _ k_929) (fun _ h9 => h9) rfl d_Model_levelOf_5 ?_
    refine lv_iload_n hx hb d_Model_levelOf_8 rfl (lv_at hl 1 rfl) ?_
    refine nv_iald hx hb hK hP 1 1 rfl rfl (by omega) (by decide) d_Model_levelOf_9 ?_
    refine nv_if_eq (tgt := 29) hx hb (by omega) d_Model_levelOf_10 (by decide) (fun c_2 => ?_) (fun c_2 => ?_)
    · refine lv_iconst (v := nI 0) hx hb d_Model_levelOf_29 (by decide) ?_
      exact wr_i hx hb hr hlocks () (by unfold lo; rw [if_neg (by omega), if_pos c_2]; rfl) hK hP hD hS d_Model_levelOf_30
    · refine lv_aload_n hx hb d_Model_levelOf_13 rfl (lv_at hl 0 rfl) ?_
      refine va_get (D := (dC, dI)) (ci := 13) (v := .ref q_gateDff) (C := R_Model) (T := F_Model) (N := 71) hx hb hts i_Model hown hK hP 0 rfl rfl 57 (by decide) (hts _ k_931) (fun _ h9 => h9) rfl d_Model_levelOf_14 ?_
      refine lv_aload_n hx hb d_Model_levelOf_17 rfl (lv_at hl 0 rfl) ?_
      refine va_get (D := (dC, dI)) (ci := 13) (v := .ref q_gateOfBit) (C := R_Model) (T := F_Model) (N := 71) hx hb hts i_Model hown hK hP 0 rfl rfl 55 (by decide) (hts _ k_929) (fun _ h9 => h9) rfl d_Model_levelOf_18 ?_
      refine lv_iload_n hx hb d_Model_levelOf_21 rfl (lv_at hl 1 rfl) ?_
      refine nv_iald hx hb hK hP 1 1 rfl rfl (by omega) (by decide) d_Model_levelOf_22 ?_
      refine lv_iconst (v := nI 1) hx hb d_Model_levelOf_23 (by decide) ?_
      refine nv_isub hx hb (by omega) d_Model_levelOf_24 ?_
      refine nv_zald hx hb hK hP 2 3 rfl rfl (by omega) (by decide) d_Model_levelOf_25 ?_
      refine nv_bif_eq (tgt := 31) hx hb d_Model_levelOf_26 (by decide) (fun c_3 => ?_) (fun c_3 => ?_)
      · refine lv_aload_n hx hb d_Model_levelOf_31 rfl (lv_at hl 0 rfl) ?_
        refine va_get (D := (dC, dI)) (ci := 13) (v := .ref q_gateLevel) (C := R_Model) (T := F_Model) (N := 71) hx hb hts i_Model hown hK hP 0 rfl rfl 59 (by decide) (hts _ k_933) (fun _ h9 => h9) rfl d_Model_levelOf_32 ?_
        refine lv_aload_n hx hb d_Model_levelOf_35 rfl (lv_at hl 0 rfl) ?_
        refine va_get (D := (dC, dI)) (ci := 13) (v := .ref q_gateOfBit) (C := R_Model) (T := F_Model) (N := 71) hx hb hts i_Model hown hK hP 0 rfl rfl 55 (by decide) (hts _ k_929) (fun _ h9 => h9) rfl d_Model_levelOf_36 ?_
        refine lv_iload_n hx hb d_Model_levelOf_39 rfl (lv_at hl 1 rfl) ?_
        refine nv_iald hx hb hK hP 1 1 rfl rfl (by omega) (by decide) d_Model_levelOf_40 ?_
        refine lv_iconst (v := nI 1) hx hb d_Model_levelOf_41 (by decide) ?_
        refine nv_isub hx hb (by omega) d_Model_levelOf_42 ?_
        refine nv_iald hx hb hK hP 3 1 rfl rfl (by omega) (by decide) d_Model_levelOf_43 ?_
        exact wr_i hx hb hr hlocks () (by unfold lo; rw [if_neg (by omega), if_neg c_2, if_neg (by rw [c_3]; decide)]) hK hP hD hS d_Model_levelOf_44
      · refine lv_iconst (v := nI 0) hx hb d_Model_levelOf_29 (by decide) ?_
        exact wr_i hx hb hr hlocks () (by unfold lo; rw [if_neg (by omega), if_neg c_2, if_pos c_3]; rfl) hK hP hD hS d_Model_levelOf_30
/-- a row with v from i on, k places -/
def rs (v : Nat) : Nat → Nat → (Nat → Nat) → Nat → Nat
  | 0, _, f => f
  | k + 1, i, f => rs v k (i + 1) (va_up f i v)
theorem rs_u (v n i b : Nat) (f : Nat → Nat) : rs v (n - i) (b + i) f = if i < n then rs v (n - (i + 1)) (b + (i + 1)) (va_up f (b + i) v) else f := by
  by_cases h : i < n
  · rw [if_pos h, show n - i = (n - (i + 1)) + 1 by omega]; rfl
  · rw [if_neg h, show n - i = 0 by omega]; rfl
theorem d_Model_newBits_0 : decode b_Model_newBits 0 = .ok (.iconst 0, 1) := by decide +kernel
theorem d_Model_newBits_1 : decode b_Model_newBits 1 = .ok (.istore_n 2, 1) := by decide +kernel
theorem d_Model_newBits_2 : decode b_Model_newBits 2 = .ok (.iload_n 2, 1) := by decide +kernel
theorem d_Model_newBits_3 : decode b_Model_newBits 3 = .ok (.iload_n 1, 1) := by decide +kernel
theorem d_Model_newBits_4 : decode b_Model_newBits 4 = .ok (.if_icmp .ge 33, 3) := by decide +kernel
theorem d_Model_newBits_7 : decode b_Model_newBits 7 = .ok (.aload_n 0, 1) := by decide +kernel
theorem d_Model_newBits_8 : decode b_Model_newBits 8 = .ok (.getfield 122, 3) := by decide +kernel
theorem d_Model_newBits_11 : decode b_Model_newBits 11 = .ok (.aload_n 0, 1) := by decide +kernel
theorem d_Model_newBits_12 : decode b_Model_newBits 12 = .ok (.getfield 339, 3) := by decide +kernel
theorem d_Model_newBits_15 : decode b_Model_newBits 15 = .ok (.iload_n 2, 1) := by decide +kernel
theorem d_Model_newBits_16 : decode b_Model_newBits 16 = .ok (.iadd, 1) := by decide +kernel
theorem d_Model_newBits_17 : decode b_Model_newBits 17 = .ok (.iconst (-1), 1) := by decide +kernel
theorem d_Model_newBits_18 : decode b_Model_newBits 18 = .ok (.iastore, 1) := by decide +kernel
theorem d_Model_newBits_19 : decode b_Model_newBits 19 = .ok (.aload_n 0, 1) := by decide +kernel
theorem d_Model_newBits_20 : decode b_Model_newBits 20 = .ok (.getfield 125, 3) := by decide +kernel
theorem d_Model_newBits_23 : decode b_Model_newBits 23 = .ok (.aload_n 0, 1) := by decide +kernel
theorem d_Model_newBits_24 : decode b_Model_newBits 24 = .ok (.getfield 339, 3) := by decide +kernel
theorem d_Model_newBits_27 : decode b_Model_newBits 27 = .ok (.iload_n 2, 1) := by decide +kernel
theorem d_Model_newBits_28 : decode b_Model_newBits 28 = .ok (.iadd, 1) := by decide +kernel
theorem d_Model_newBits_29 : decode b_Model_newBits 29 = .ok (.iconst 0, 1) := by decide +kernel
theorem d_Model_newBits_30 : decode b_Model_newBits 30 = .ok (.iastore, 1) := by decide +kernel
theorem d_Model_newBits_31 : decode b_Model_newBits 31 = .ok (.iinc 2 1, 3) := by decide +kernel
theorem d_Model_newBits_34 : decode b_Model_newBits 34 = .ok (.goto (-32), 3) := by decide +kernel
theorem d_Model_newBits_37 : decode b_Model_newBits 37 = .ok (.aload_n 0, 1) := by decide +kernel
theorem d_Model_newBits_38 : decode b_Model_newBits 38 = .ok (.aload_n 0, 1) := by decide +kernel
theorem d_Model_newBits_39 : decode b_Model_newBits 39 = .ok (.getfield 339, 3) := by decide +kernel
theorem d_Model_newBits_42 : decode b_Model_newBits 42 = .ok (.iload_n 1, 1) := by decide +kernel
theorem d_Model_newBits_43 : decode b_Model_newBits 43 = .ok (.iadd, 1) := by decide +kernel
theorem d_Model_newBits_44 : decode b_Model_newBits 44 = .ok (.putfield 339, 3) := by decide +kernel
theorem d_Model_newBits_47 : decode b_Model_newBits 47 = .ok (.aload_n 0, 1) := by decide +kernel
theorem d_Model_newBits_48 : decode b_Model_newBits 48 = .ok (.getfield 339, 3) := by decide +kernel
theorem d_Model_newBits_51 : decode b_Model_newBits 51 = .ok (.iload_n 1, 1) := by decide +kernel
theorem d_Model_newBits_52 : decode b_Model_newBits 52 = .ok (.isub, 1) := by decide +kernel
theorem d_Model_newBits_53 : decode b_Model_newBits 53 = .ok (.ireturn, 1) := by decide +kernel
set_option maxHeartbeats 4000000 in
set_option maxRecDepth 100000 in
theorem lp_Model_newBits {p : Program} {l : Launch} {e : Env} {s : State} {m : MethodId} {args : Array Value} {below : List Frame} {meth : Method} {c : Code} {Q : State → Prop} {A : Nat → Prop} {dC : Nat → ClassId} {dI : Nat → Nat → Nat} {cB cI cL cZ cC cO : ClassId} {qm q_from q_gateOfBit : Nat}{f0 f1 f2 f3 f4 f5 f6 f7 f8 f9 f10 f11 f12 f13 f14 f15 f16 f17 f18 f19 f20 f21 f22 f23 f24 f25 f26 f27 f28 f29 f30 f31 f32 f33 f34 f35 f36 f37 f38 f39 f40 f41 f42 f43 f44 f45 f46 f47 f48 f49 f50 f51 f52 f56 f57 f58 f59 f60 f61 f62 f63 f64 f65 f66 f67 f68 f69 f70 : Value} {bc n : Nat} {F G : Nat → Nat} (hn : bc + n ≤ 8000) (hx : p.tables.exec = Jvm.exec) (hb : c.code = b_Model_newBits) (hml : c.maxLocals = 3) (hown : s.vm.findClass R_Model = some m.cls) (hts : ∀ w ∈ tb, w.before args s = true) (hA : ∀ q, s.heap.size ≤ q → A q) (hF : stF A s) (hK : va_K (dC, dI) cl [(cB, .byte), (cI, .int), (cL, .long), (cZ, .boolean), (cC, .char), (cO, .object "java/lang/Object")] s)
    (kx : ∀  (H : Heap) (locs : List Loc) (ls : Array Slot), va_P (dC, dI) cl [(qm, .inr (13, [f0, f1, f2, f3, f4, f5, f6, f7, f8, f9, f10, f11, f12, f13, f14, f15, f16, f17, f18, f19, f20, f21, f22, f23, f24, f25, f26, f27, f28, f29, f30, f31, f32, f33, f34, f35, f36, f37, f38, f39, f40, f41, f42, f43, f44, f45, f46, f47, f48, f49, f50, f51, f52, .int (nI bc), .ref q_from, .ref q_gateOfBit, f56, f57, f58, f59, f60, f61, f62, f63, f64, f65, f66, f67, f68, f69, f70])), (q_from, .inl (cI, 8000, .inl (zF F))), (q_gateOfBit, .inl (cI, 8000, .inl (nF G)))] H → va_D A [(qm, .inr (13, [f0, f1, f2, f3, f4, f5, f6, f7, f8, f9, f10, f11, f12, f13, f14, f15, f16, f17, f18, f19, f20, f21, f22, f23, f24, f25, f26, f27, f28, f29, f30, f31, f32, f33, f34, f35, f36, f37, f38, f39, f40, f41, f42, f43, f44, f45, f46, f47, f48, f49, f50, f51, f52, .int (nI bc), .ref q_from, .ref q_gateOfBit, f56, f57, f58, f59, f60, f61, f62, f63, f64, f65, f66, f67, f68, f69, f70])), (q_from, .inl (cI, 8000, .inl (zF F))), (q_gateOfBit, .inl (cI, 8000, .inl (nF G)))] → va_S A s.heap H locs → lv_has ls 3 [(0, .ref qm), (1, .int (nI n))] → W p l e (headSpec w_Model_newBits { frames := 0, cells := 0, slots := 0, locals := 0 }).room s m args below meth c H locs 0 0 Q (F0 m 37 ls [])) :
    ∀ (k : Nat) (i : Nat) (fr gb : Nat → Nat) (H : Heap) (locs : List Loc) (ls : Array Slot), n < i + k → i ≤ n → rs 1 (n - i) (bc + i) fr = F → rs 0 (n - i) (bc + i) gb = G → va_P (dC, dI) cl [(qm, .inr (13, [f0, f1, f2, f3, f4, f5, f6, f7, f8, f9, f10, f11, f12, f13, f14, f15, f16, f17, f18, f19, f20, f21, f22, f23, f24, f25, f26, f27, f28, f29, f30, f31, f32, f33, f34, f35, f36, f37, f38, f39, f40, f41, f42, f43, f44, f45, f46, f47, f48, f49, f50, f51, f52, .int (nI bc), .ref q_from, .ref q_gateOfBit, f56, f57, f58, f59, f60, f61, f62, f63, f64, f65, f66, f67, f68, f69, f70])), (q_from, .inl (cI, 8000, .inl (zF fr))), (q_gateOfBit, .inl (cI, 8000, .inl (nF gb)))] H → va_D A [(qm, .inr (13, [f0, f1, f2, f3, f4, f5, f6, f7, f8, f9, f10, f11, f12, f13, f14, f15, f16, f17, f18, f19, f20, f21, f22, f23, f24, f25, f26, f27, f28, f29, f30, f31, f32, f33, f34, f35, f36, f37, f38, f39, f40, f41, f42, f43, f44, f45, f46, f47, f48, f49, f50, f51, f52, .int (nI bc), .ref q_from, .ref q_gateOfBit, f56, f57, f58, f59, f60, f61, f62, f63, f64, f65, f66, f67, f68, f69, f70])), (q_from, .inl (cI, 8000, .inl (zF fr))), (q_gateOfBit, .inl (cI, 8000, .inl (nF gb)))] → va_S A s.heap H locs → lv_has ls 3 [(2, .int (nI i)), (0, .ref qm), (1, .int (nI n))] → W p l e (headSpec w_Model_newBits { frames := 0, cells := 0, slots := 0, locals := 0 }).room s m args below meth c H locs 0 0 Q (F0 m 2 ls []) := by
  intro k
  induction k with
  | zero =>
    intro i fr gb H locs ls hk hi hr hg hP hD hS hl
    exfalso; omega
  | succ k ih =>
    intro i fr gb H locs ls hk hi hr hg hP hD hS hl
    refine lv_iload_n hx hb d_Model_newBits_2 rfl (lv_at hl 0 rfl) ?_
    refine lv_iload_n hx hb d_Model_newBits_3 rfl (lv_at hl 2 rfl) ?_
    refine nv_icmp_ge (tgt := 37) hx hb (by omega) (by omega) d_Model_newBits_4 (by decide) (fun c_1 => ?_) (fun c_1 => ?_)
    · have h1 : fr = F := by rw [← hr, rs_u, if_neg (by omega)]
      have h2 : gb = G := by rw [← hg, rs_u, if_neg (by omega)]
      subst h1
      subst h2
      exact kx H locs ls hP hD hS (lv_sub hl [1, 2] rfl)
    · refine lv_aload_n hx hb d_Model_newBits_7 rfl (lv_at hl 1 rfl) ?_
      refine va_get (D := (dC, dI)) (ci := 13) (v := .ref q_from) (C := R_Model) (T := F_Model) (N := 71) hx hb hts i_Model hown hK hP 0 rfl rfl 54 (by decide) (hts _ k_928) (fun _ h9 => h9) rfl d_Model_newBits_8 ?_
      refine lv_aload_n hx hb d_Model_newBits_11 rfl (lv_at hl 1 rfl) ?_
      refine va_get (D := (dC, dI)) (ci := 13) (v := .int (nI bc)) (C := R_Model) (T := F_Model) (N := 71) hx hb hts i_Model hown hK hP 0 rfl rfl 53 (by decide) (hts _ k_927) (fun _ h9 => h9) rfl d_Model_newBits_12 ?_
      refine lv_iload_n hx hb d_Model_newBits_15 rfl (lv_at hl 0 rfl) ?_
      refine nv_iadd hx hb d_Model_newBits_16 ?_
      refine lv_iconst (v := (-1)) hx hb d_Model_newBits_17 (by decide) ?_
      refine nv_iastC (x := 1) hx hb hK hP hD hS 1 1 rfl rfl (by omega) (by decide) d_Model_newBits_18 (fun H locs hP hD hS => ?_)
      have hP : va_P (dC, dI) cl [(qm, .inr (13, [f0, f1, f2, f3, f4, f5, f6, f7, f8, f9, f10, f11, f12, f13, f14, f15, f16, f17, f18, f19, f20, f21, f22, f23, f24, f25, f26, f27, f28, f29, f30, f31, f32, f33, f34, f35, f36, f37, f38, f39, f40, f41, f42, f43, f44, f45, f46, f47, f48, f49, f50, f51, f52, .int (nI bc), .ref q_from, .ref q_gateOfBit, f56, f57, f58, f59, f60, f61, f62, f63, f64, f65, f66, f67, f68, f69, f70])), (q_from, .inl (cI, 8000, .inl (zF (va_up fr (bc + i) 1)))), (q_gateOfBit, .inl (cI, 8000, .inl (nF gb)))] H := hP
      have hD : va_D A [(qm, .inr (13, [f0, f1, f2, f3, f4, f5, f6, f7, f8, f9, f10, f11, f12, f13, f14, f15, f16, f17, f18, f19, f20, f21, f22, f23, f24, f25, f26, f27, f28, f29, f30, f31, f32, f33, f34, f35, f36, f37, f38, f39, f40, f41, f42, f43, f44, f45, f46, f47, f48, f49, f50, f51, f52, .int (nI bc), .ref q_from, .ref q_gateOfBit, f56, f57, f58, f59, f60, f61, f62, f63, f64, f65, f66, f67, f68, f69, f70])), (q_from, .inl (cI, 8000, .inl (zF (va_up fr (bc + i) 1)))), (q_gateOfBit, .inl (cI, 8000, .inl (nF gb)))] := hD
      refine lv_aload_n hx hb d_Model_newBits_19 rfl (lv_at hl 1 rfl) ?_
      refine va_get (D := (dC, dI)) (ci := 13) (v := .ref q_gateOfBit) (C := R_Model) (T := F_Model) (N := 71) hx hb hts i_Model hown hK hP 0 rfl rfl 55 (by decide) (hts _ k_929) (fun _ h9 => h9) rfl d_Model_newBits_20 ?_
      refine lv_aload_n hx hb d_Model_newBits_23 rfl (lv_at hl 1 rfl) ?_
      refine va_get (D := (dC, dI)) (ci := 13) (v := .int (nI bc)) (C := R_Model) (T := F_Model) (N := 71) hx hb hts i_Model hown hK hP 0 rfl rfl 53 (by decide) (hts _ k_927) (fun _ h9 => h9) rfl d_Model_newBits_24 ?_
      refine lv_iload_n hx hb d_Model_newBits_27 rfl (lv_at hl 0 rfl) ?_
      refine nv_iadd hx hb d_Model_newBits_28 ?_
      refine lv_iconst (v := nI 0) hx hb d_Model_newBits_29 (by decide) ?_
      refine nv_iastN (x := 0) hx hb hK hP hD hS 2 1 rfl rfl (by omega) (by decide) d_Model_newBits_30 (fun H locs hP hD hS => ?_)
      have hP : va_P (dC, dI) cl [(qm, .inr (13, [f0, f1, f2, f3, f4, f5, f6, f7, f8, f9, f10, f11, f12, f13, f14, f15, f16, f17, f18, f19, f20, f21, f22, f23, f24, f25, f26, f27, f28, f29, f30, f31, f32, f33, f34, f35, f36, f37, f38, f39, f40, f41, f42, f43, f44, f45, f46, f47, f48, f49, f50, f51, f52, .int (nI bc), .ref q_from, .ref q_gateOfBit, f56, f57, f58, f59, f60, f61, f62, f63, f64, f65, f66, f67, f68, f69, f70])), (q_from, .inl (cI, 8000, .inl (zF (va_up fr (bc + i) 1)))), (q_gateOfBit, .inl (cI, 8000, .inl (nF (va_up gb (bc + i) 0))))] H := hP
      have hD : va_D A [(qm, .inr (13, [f0, f1, f2, f3, f4, f5, f6, f7, f8, f9, f10, f11, f12, f13, f14, f15, f16, f17, f18, f19, f20, f21, f22, f23, f24, f25, f26, f27, f28, f29, f30, f31, f32, f33, f34, f35, f36, f37, f38, f39, f40, f41, f42, f43, f44, f45, f46, f47, f48, f49, f50, f51, f52, .int (nI bc), .ref q_from, .ref q_gateOfBit, f56, f57, f58, f59, f60, f61, f62, f63, f64, f65, f66, f67, f68, f69, f70])), (q_from, .inl (cI, 8000, .inl (zF (va_up fr (bc + i) 1)))), (q_gateOfBit, .inl (cI, 8000, .inl (nF (va_up gb (bc + i) 0))))] := hD
      refine lv_iinc (v := nI (i + 1)) (lv' := [(2, .int (nI (i + 1))), (0, .ref qm), (1, .int (nI n))]) hx hb d_Model_newBits_31 hl (k := 0) rfl (nI_1 _) (by decide) rfl (fun ls hl => ?_)
      refine lv_goto (tgt := 2) hx hb d_Model_newBits_34 (by decide) ?_
      exact ih (i + 1) _ _ H locs ls (by omega) (by omega) (by rw [← hr, rs_u _ _ i, if_pos (by omega)]) (by rw [← hg, rs_u _ _ i, if_pos (by omega)]) hP hD hS (lv_sub hl [0, 1, 2] rfl)
set_option maxHeartbeats 4000000 in
set_option maxRecDepth 100000 in
/-- newBits(n) -/
theorem c_Model_newBits (l : Launch) (dC : Nat → ClassId) (dI : Nat → Nat → Nat) (cB cI cL cZ cC cO : ClassId) {qm q_from q_gateOfBit : Nat}{f0 f1 f2 f3 f4 f5 f6 f7 f8 f9 f10 f11 f12 f13 f14 f15 f16 f17 f18 f19 f20 f21 f22 f23 f24 f25 f26 f27 f28 f29 f30 f31 f32 f33 f34 f35 f36 f37 f38 f39 f40 f41 f42 f43 f44 f45 f46 f47 f48 f49 f50 f51 f52 f56 f57 f58 f59 f60 f61 f62 f63 f64 f65 f66 f67 f68 f69 f70 : Value} (bc n : Nat) (fr gb : Nat → Nat) (sz : Nat) (hn : bc + n ≤ 8000) : Met l y_Model_newBits w_Model_newBits ({ frames := 0, cells := 0, slots := 0, locals := 0 }) (va_Pc [.ref qm, .int (nI n)] (wB (dC, dI) cl [(cB, .byte), (cI, .int), (cL, .long), (cZ, .boolean), (cC, .char), (cO, .object "java/lang/Object")] sz [(qm, .inr (13, [f0, f1, f2, f3, f4, f5, f6, f7, f8, f9, f10, f11, f12, f13, f14, f15, f16, f17, f18, f19, f20, f21, f22, f23, f24, f25, f26, f27, f28, f29, f30, f31, f32, f33, f34, f35, f36, f37, f38, f39, f40, f41, f42, f43, f44, f45, f46, f47, f48, f49, f50, f51, f52, .int (nI bc), .ref q_from, .ref q_gateOfBit, f56, f57, f58, f59, f60, f61, f62, f63, f64, f65, f66, f67, f68, f69, f70])), (q_from, .inl (cI, 8000, .inl (zF fr))), (q_gateOfBit, .inl (cI, 8000, .inl (nF gb)))])) (va_Qi (fun (r : Int32) (u : Unit) => r = nI bc) (fun _ t => wA (dC, dI) cl [(cB, .byte), (cI, .int), (cL, .long), (cZ, .boolean), (cC, .char), (cO, .object "java/lang/Object")] (va_A [(qm, .inr (13, [f0, f1, f2, f3, f4, f5, f6, f7, f8, f9, f10, f11, f12, f13, f14, f15, f16, f17, f18, f19, f20, f21, f22, f23, f24, f25, f26, f27, f28, f29, f30, f31, f32, f33, f34, f35, f36, f37, f38, f39, f40, f41, f42, f43, f44, f45, f46, f47, f48, f49, f50, f51, f52, .int (nI bc), .ref q_from, .ref q_gateOfBit, f56, f57, f58, f59, f60, f61, f62, f63, f64, f65, f66, f67, f68, f69, f70])), (q_from, .inl (cI, 8000, .inl (zF fr))), (q_gateOfBit, .inl (cI, 8000, .inl (nF gb)))] sz) [(qm, .inr (13, [f0, f1, f2, f3, f4, f5, f6, f7, f8, f9, f10, f11, f12, f13, f14, f15, f16, f17, f18, f19, f20, f21, f22, f23, f24, f25, f26, f27, f28, f29, f30, f31, f32, f33, f34, f35, f36, f37, f38, f39, f40, f41, f42, f43, f44, f45, f46, f47, f48, f49, f50, f51, f52, .int (nI (bc + n)), .ref q_from, .ref q_gateOfBit, f56, f57, f58, f59, f60, f61, f62, f63, f64, f65, f66, f67, f68, f69, f70])), (q_from, .inl (cI, 8000, .inl (zF (rs 1 n bc fr)))), (q_gateOfBit, .inl (cI, 8000, .inl (nF (rs 0 n bc gb))))] t) (va_A [(qm, .inr (13, [f0, f1, f2, f3, f4, f5, f6, f7, f8, f9, f10, f11, f12, f13, f14, f15, f16, f17, f18, f19, f20, f21, f22, f23, f24, f25, f26, f27, f28, f29, f30, f31, f32, f33, f34, f35, f36, f37, f38, f39, f40, f41, f42, f43, f44, f45, f46, f47, f48, f49, f50, f51, f52, .int (nI bc), .ref q_from, .ref q_gateOfBit, f56, f57, f58, f59, f60, f61, f62, f63, f64, f65, f66, f67, f68, f69, f70])), (q_from, .inl (cI, 8000, .inl (zF fr))), (q_gateOfBit, .inl (cI, 8000, .inl (nF gb)))] sz)) 0 0 (va_A [(qm, .inr (13, [f0, f1, f2, f3, f4, f5, f6, f7, f8, f9, f10, f11, f12, f13, f14, f15, f16, f17, f18, f19, f20, f21, f22, f23, f24, f25, f26, f27, f28, f29, f30, f31, f32, f33, f34, f35, f36, f37, f38, f39, f40, f41, f42, f43, f44, f45, f46, f47, f48, f49, f50, f51, f52, .int (nI bc), .ref q_from, .ref q_gateOfBit, f56, f57, f58, f59, f60, f61, f62, f63, f64, f65, f66, f67, f68, f69, f70])), (q_from, .inl (cI, 8000, .inl (zF fr))), (q_gateOfBit, .inl (cI, 8000, .inl (nF gb)))] sz) := by
  refine Met.ofW (cc := b_Model_newBits) (maxL := 3) (ret := (some ClassFile.FieldType.int)) (by decide) rfl ?_
  intro p e s m args below meth c s₁ B hml hv
  obtain ⟨rfl, hsz, hP, hK, hD0, hF⟩ := hv
  have hx := B.exec
  have hb := B.bytes
  have hr := B.returns
  have hts := atoms_spec (ws := w_Model_newBits) B.pre
  have hts : ∀ w ∈ tb, w.before _ s = true := fun w h => hts w (List.mem_cons_of_mem _ h)
  have hown : s.vm.findClass R_Model = some m.cls := findClass_of_methodNamed B.named
  have hlocks := B.notSynchronized
  subst hsz
  have hD := hD0.self (sz := s.heap.size)
  generalize hAe : va_A [(qm, .inr (13, [f0, f1, f2, f3, f4, f5, f6, f7, f8, f9, f10, f11, f12, f13, f14, f15, f16, f17, f18, f19, f20, f21, f22, f23, f24, f25, f26, f27, f28, f29, f30, f31, f32, f33, f34, f35, f36, f37, f38, f39, f40, f41, f42, f43, f44, f45, f46, f47, f48, f49, f50, f51, f52, .int (nI bc), .ref q_from, .ref q_gateOfBit, f56, f57, f58, f59, f60, f61, f62, f63, f64, f65, f66, f67, f68, f69, f70])), (q_from, .inl (cI, 8000, .inl (zF fr))), (q_gateOfBit, .inl (cI, 8000, .inl (nF gb)))] s.heap.size = A at hD hF ⊢
  have hA : ∀ q : Nat, s.heap.size ≤ q → A q := fun q h => by rw [← hAe]; exact Or.inr h
  have hS : va_S A s.heap s.heap [] := va_S.rf
  have hP : va_P (dC, dI) cl [(qm, .inr (13, [f0, f1, f2, f3, f4, f5, f6, f7, f8, f9, f10, f11, f12, f13, f14, f15, f16, f17, f18, f19, f20, f21, f22, f23, f24, f25, f26, f27, f28, f29, f30, f31, f32, f33, f34, f35, f36, f37, f38, f39, f40, f41, f42, f43, f44, f45, f46, f47, f48, f49, f50, f51, f52, .int (nI bc), .ref q_from, .ref q_gateOfBit, f56, f57, f58, f59, f60, f61, f62, f63, f64, f65, f66, f67, f68, f69, f70])), (q_from, .inl (cI, 8000, .inl (zF fr))), (q_gateOfBit, .inl (cI, 8000, .inl (nF gb)))] s.heap := hP
  have hl := lv_entry ([.ref qm, .int (nI n)]) (n := 3) (Nat.le_of_ble_eq_true rfl)
  rw [lg_entry_eq]
  generalize (lg_sl ([.ref qm, .int (nI n)]) ++ List.replicate (3 - (lg_sl ([.ref qm, .int (nI n)])).length) Slot.unset).toArray = ls at hl ⊢
  have hl : lv_has ls 3 [(0, .ref qm), (1, .int (nI n))] := hl
  refine lv_iconst (v := nI 0) hx hb d_Model_newBits_0 (by decide) ?_
  refine lv_istore_n (lv' := [(2, .int (nI 0)), (0, .ref qm), (1, .int (nI n))]) hx hb d_Model_newBits_1 rfl hl (by decide) rfl (fun ls hl => ?_)
  refine lp_Model_newBits (F := rs 1 n bc fr) (G := rs 0 n bc gb) hn hx hb hml hown hts hA hF hK (fun H locs ls hP hD hS hl => ?_) (n + 1) 0 fr gb _ _ ls (by omega) (by omega) rfl rfl hP hD hS (lv_sub hl [0, 1, 2] rfl)
  refine lv_aload_n hx hb d_Model_newBits_37 rfl (lv_at hl 0 rfl) ?_
  refine lv_aload_n hx hb d_Model_newBits_38 rfl (lv_at hl 0 rfl) ?_
  refine va_get (D := (dC, dI)) (ci := 13) (v := .int (nI bc)) (C := R_Model) (T := F_Model) (N := 71) hx hb hts i_Model hown hK hP 0 rfl rfl 53 (by decide) (hts _ k_927) (fun _ h9 => h9) rfl d_Model_newBits_39 ?_
  refine lv_iload_n hx hb d_Model_newBits_42 rfl (lv_at hl 1 rfl) ?_
  refine nv_iadd hx hb d_Model_newBits_43 ?_
  refine va_put (D := (dC, dI)) (ci := 13) (v := .int (nI (bc + n))) (ty := .int) (C := R_Model) (T := F_Model) (N := 71) hx hb hts i_Model t_Model t_Model_ok n_Model hown hK hP hD hS 0 rfl rfl 53 (by decide) (hts _ k_927) (fun _ h9 => h9) rfl (by decide +kernel) rfl rfl (Nat.le_of_ble_eq_true rfl) d_Model_newBits_44 (fun H locs hP hD hS => ?_)
  have hP : va_P (dC, dI) cl [(qm, .inr (13, [f0, f1, f2, f3, f4, f5, f6, f7, f8, f9, f10, f11, f12, f13, f14, f15, f16, f17, f18, f19, f20, f21, f22, f23, f24, f25, f26, f27, f28, f29, f30, f31, f32, f33, f34, f35, f36, f37, f38, f39, f40, f41, f42, f43, f44, f45, f46, f47, f48, f49, f50, f51, f52, .int (nI (bc + n)), .ref q_from, .ref q_gateOfBit, f56, f57, f58, f59, f60, f61, f62, f63, f64, f65, f66, f67, f68, f69, f70])), (q_from, .inl (cI, 8000, .inl (zF (rs 1 n bc fr)))), (q_gateOfBit, .inl (cI, 8000, .inl (nF (rs 0 n bc gb))))] H := hP
  have hD : va_D A [(qm, .inr (13, [f0, f1, f2, f3, f4, f5, f6, f7, f8, f9, f10, f11, f12, f13, f14, f15, f16, f17, f18, f19, f20, f21, f22, f23, f24, f25, f26, f27, f28, f29, f30, f31, f32, f33, f34, f35, f36, f37, f38, f39, f40, f41, f42, f43, f44, f45, f46, f47, f48, f49, f50, f51, f52, .int (nI (bc + n)), .ref q_from, .ref q_gateOfBit, f56, f57, f58, f59, f60, f61, f62, f63, f64, f65, f66, f67, f68, f69, f70])), (q_from, .inl (cI, 8000, .inl (zF (rs 1 n bc fr)))), (q_gateOfBit, .inl (cI, 8000, .inl (nF (rs 0 n bc gb))))] := hD
  refine lv_aload_n hx hb d_Model_newBits_47 rfl (lv_at hl 0 rfl) ?_
  refine va_get (D := (dC, dI)) (ci := 13) (v := .int (nI (bc + n))) (C := R_Model) (T := F_Model) (N := 71) hx hb hts i_Model hown hK hP 0 rfl rfl 53 (by decide) (hts _ k_927) (fun _ h9 => h9) rfl d_Model_newBits_48 ?_
  refine lv_iload_n hx hb d_Model_newBits_51 rfl (lv_at hl 1 rfl) ?_
  refine nv_isub hx hb (by omega) d_Model_newBits_52 ?_
  exact wr_i hx hb hr hlocks () (by rw [Nat.add_sub_cancel]) hK hP hD hS d_Model_newBits_53
theorem d_Model_source_0 : decode b_Model_source 0 = .ok (.iload_n 1, 1) := by decide +kernel
theorem d_Model_source_1 : decode b_Model_source 1 = .ok (.istore_n 2, 1) := by decide +kernel
theorem d_Model_source_2 : decode b_Model_source 2 = .ok (.iload_n 2, 1) := by decide +kernel
theorem d_Model_source_3 : decode b_Model_source 3 = .ok (.ifCond .lt 32, 3) := by decide +kernel
theorem d_Model_source_6 : decode b_Model_source 6 = .ok (.aload_n 0, 1) := by decide +kernel
theorem d_Model_source_7 : decode b_Model_source 7 = .ok (.getfield 125, 3) := by decide +kernel
theorem d_Model_source_10 : decode b_Model_source 10 = .ok (.iload_n 2, 1) := by decide +kernel
theorem d_Model_source_11 : decode b_Model_source 11 = .ok (.iaload, 1) := by decide +kernel
theorem d_Model_source_12 : decode b_Model_source 12 = .ok (.ifCond .ne 23, 3) := by decide +kernel
theorem d_Model_source_15 : decode b_Model_source 15 = .ok (.aload_n 0, 1) := by decide +kernel
theorem d_Model_source_16 : decode b_Model_source 16 = .ok (.getfield 122, 3) := by decide +kernel
theorem d_Model_source_19 : decode b_Model_source 19 = .ok (.iload_n 2, 1) := by decide +kernel
theorem d_Model_source_20 : decode b_Model_source 20 = .ok (.iaload, 1) := by decide +kernel
theorem d_Model_source_21 : decode b_Model_source 21 = .ok (.iconst (-1), 1) := by decide +kernel
theorem d_Model_source_22 : decode b_Model_source 22 = .ok (.if_icmp .eq 13, 3) := by decide +kernel
theorem d_Model_source_25 : decode b_Model_source 25 = .ok (.aload_n 0, 1) := by decide +kernel
theorem d_Model_source_26 : decode b_Model_source 26 = .ok (.getfield 122, 3) := by decide +kernel
theorem d_Model_source_29 : decode b_Model_source 29 = .ok (.iload_n 2, 1) := by decide +kernel
theorem d_Model_source_30 : decode b_Model_source 30 = .ok (.iaload, 1) := by decide +kernel
theorem d_Model_source_31 : decode b_Model_source 31 = .ok (.istore_n 2, 1) := by decide +kernel
theorem d_Model_source_32 : decode b_Model_source 32 = .ok (.goto (-30), 3) := by decide +kernel
theorem d_Model_source_35 : decode b_Model_source 35 = .ok (.iload_n 2, 1) := by decide +kernel
theorem d_Model_source_36 : decode b_Model_source 36 = .ok (.ireturn, 1) := by decide +kernel
def stp (gb fr : Nat → Nat) (v : Nat) : Prop := v < 2 ∨ gb (v - 2) ≠ 0 ∨ fr (v - 2) = 1
def src (gb fr : Nat → Nat) : Nat → Nat → Nat
  | 0, v => v
  | k + 1, v => if v < 2 then v else if gb (v - 2) = 0 then (if fr (v - 2) = 1 then v else src gb fr k (fr (v - 2))) else v
theorem src_stp {gb fr : Nat → Nat} {v : Nat} (h : stp gb fr v) : ∀ k, src gb fr k v = v
  | 0 => rfl
  | k + 1 => by
    show (if v < 2 then v else if gb (v - 2) = 0 then (if fr (v - 2) = 1 then v else src gb fr k (fr (v - 2))) else v) = v
    split
    · rfl
    · split
      · split
        · rfl
        · rename_i a b c; rcases h with h | h | h
          · exact absurd h a
          · exact absurd b h
          · exact absurd h c
      · rfl
set_option maxHeartbeats 4000000 in
set_option maxRecDepth 100000 in
theorem lp_Model_source {p : Program} {l : Launch} {e : Env} {s : State} {m : MethodId} {args : Array Value} {below : List Frame} {meth : Method} {c : Code} {Q : State → Prop} {A : Nat → Prop} {dC : Nat → ClassId} {dI : Nat → Nat → Nat} {cB cI cL cZ cC cO : ClassId} {qm q_from q_gateOfBit : Nat}{f0 f1 f2 f3 f4 f5 f6 f7 f8 f9 f10 f11 f12 f13 f14 f15 f16 f17 f18 f19 f20 f21 f22 f23 f24 f25 f26 f27 f28 f29 f30 f31 f32 f33 f34 f35 f36 f37 f38 f39 f40 f41 f42 f43 f44 f45 f46 f47 f48 f49 f50 f51 f52 f53 f56 f57 f58 f59 f60 f61 f62 f63 f64 f65 f66 f67 f68 f69 f70 : Value} {v0 r : Nat} {fr gb : Nat → Nat} (hfr : ∀ i, i < 8000 → fr i < 8002) (hgb : ∀ i, gb i ≤ 300) (hx : p.tables.exec = Jvm.exec) (hb : c.code = b_Model_source) (hml : c.maxLocals = 3) (hown : s.vm.findClass R_Model = some m.cls) (hts : ∀ w ∈ tb, w.before args s = true) (hA : ∀ q, s.heap.size ≤ q → A q) (hF : stF A s) (hK : va_K (dC, dI) cl [(cB, .byte), (cI, .int), (cL, .long), (cZ, .boolean), (cC, .char), (cO, .object "java/lang/Object")] s)
    (kx : ∀  (H : Heap) (locs : List Loc) (ls : Array Slot), va_P (dC, dI) cl [(qm, .inr (13, [f0, f1, f2, f3, f4, f5, f6, f7, f8, f9, f10, f11, f12, f13, f14, f15, f16, f17, f18, f19, f20, f21, f22, f23, f24, f25, f26, f27, f28, f29, f30, f31, f32, f33, f34, f35, f36, f37, f38, f39, f40, f41, f42, f43, f44, f45, f46, f47, f48, f49, f50, f51, f52, f53, .ref q_from, .ref q_gateOfBit, f56, f57, f58, f59, f60, f61, f62, f63, f64, f65, f66, f67, f68, f69, f70])), (q_from, .inl (cI, 8000, .inl (zF fr))), (q_gateOfBit, .inl (cI, 8000, .inl (nF gb)))] H → va_D A [(qm, .inr (13, [f0, f1, f2, f3, f4, f5, f6, f7, f8, f9, f10, f11, f12, f13, f14, f15, f16, f17, f18, f19, f20, f21, f22, f23, f24, f25, f26, f27, f28, f29, f30, f31, f32, f33, f34, f35, f36, f37, f38, f39, f40, f41, f42, f43, f44, f45, f46, f47, f48, f49, f50, f51, f52, f53, .ref q_from, .ref q_gateOfBit, f56, f57, f58, f59, f60, f61, f62, f63, f64, f65, f66, f67, f68, f69, f70])), (q_from, .inl (cI, 8000, .inl (zF fr))), (q_gateOfBit, .inl (cI, 8000, .inl (nF gb)))] → va_S A s.heap H locs → lv_has ls 3 [(2, .int (zI r)), (0, .ref qm), (1, .int (zI v0))] → W p l e (headSpec w_Model_source { frames := 0, cells := 0, slots := 0, locals := 0 }).room s m args below meth c H locs 0 0 Q (F0 m 35 ls [])) :
    ∀ (k : Nat) (j v : Nat) (H : Heap) (locs : List Loc) (ls : Array Slot), k = j + 1 → v < 8002 → stp gb fr (src gb fr j v) → src gb fr j v = r → va_P (dC, dI) cl [(qm, .inr (13, [f0, f1, f2, f3, f4, f5, f6, f7, f8, f9, f10, f11, f12, f13, f14, f15, f16, f17, f18, f19, f20, f21, f22, f23, f24, f25, f26, f27, f28, f29, f30, f31, f32, f33, f34, f35, f36, f37, f38, f39, f40, f41, f42, f43, f44, f45, f46, f47, f48, f49, f50, f51, f52, f53, .ref q_from, .ref q_gateOfBit, f56, f57, f58, f59, f60, f61, f62, f63, f64, f65, f66, f67, f68, f69, f70])), (q_from, .inl (cI, 8000, .inl (zF fr))), (q_gateOfBit, .inl (cI, 8000, .inl (nF gb)))] H → va_D A [(qm, .inr (13, [f0, f1, f2, f3, f4, f5, f6, f7, f8, f9, f10, f11, f12, f13, f14, f15, f16, f17, f18, f19, f20, f21, f22, f23, f24, f25, f26, f27, f28, f29, f30, f31, f32, f33, f34, f35, f36, f37, f38, f39, f40, f41, f42, f43, f44, f45, f46, f47, f48, f49, f50, f51, f52, f53, .ref q_from, .ref q_gateOfBit, f56, f57, f58, f59, f60, f61, f62, f63, f64, f65, f66, f67, f68, f69, f70])), (q_from, .inl (cI, 8000, .inl (zF fr))), (q_gateOfBit, .inl (cI, 8000, .inl (nF gb)))] → va_S A s.heap H locs → lv_has ls 3 [(2, .int (zI v)), (0, .ref qm), (1, .int (zI v0))] → W p l e (headSpec w_Model_source { frames := 0, cells := 0, slots := 0, locals := 0 }).room s m args below meth c H locs 0 0 Q (F0 m 2 ls []) := by
  intro k
  induction k with
  | zero =>
    intro j v H locs ls hk hv hs hr hP hD hS hl
    exfalso; omega
  | succ k ih =>
    intro j v H locs ls hk hv hs hr hP hD hS hl
    refine lv_iload_n hx hb d_Model_source_2 rfl (lv_at hl 0 rfl) ?_
    refine nv_cif_lt (tgt := 35) hx hb (by omega) d_Model_source_3 (by decide) (fun c_1 => ?_) (fun c_1 => ?_)
    · have hri : v = r := by rw [← hr, src_stp (Or.inl c_1)]
      subst hri
      exact kx H locs ls hP hD hS (lv_sub hl [0, 1, 2] rfl)
    · have hv2 : 2 ≤ v := c_1
      rw [zI_n hv2] at hl
      have hl : lv_has ls 3 [(2, .int (nI (v - 2))), (0, .ref qm), (1, .int (zI v0))] := hl
      have hfv := hfr (v - 2) (by omega)
      have hgv := hgb (v - 2)
      refine lv_aload_n hx hb d_Model_source_6 rfl (lv_at hl 1 rfl) ?_
      refine va_get (D := (dC, dI)) (ci := 13) (v := .ref q_gateOfBit) (C := R_Model) (T := F_Model) (N := 71) hx hb hts i_Model hown hK hP 0 rfl rfl 55 (by decide) (hts _ k_929) (fun _ h9 => h9) rfl d_Model_source_7 ?_
      refine lv_iload_n hx hb d_Model_source_10 rfl (lv_at hl 0 rfl) ?_
      refine nv_iald hx hb hK hP 2 1 rfl rfl (by omega) (by decide) d_Model_source_11 ?_
      refine nv_if_ne (tgt := 35) hx hb (by omega) d_Model_source_12 (by decide) (fun c_2 => ?_) (fun c_2 => ?_)
      · have hri : v = r := by rw [← hr, src_stp (Or.inr (Or.inl c_2))]
        have hl : lv_has ls 3 [(2, .int (nI (v - 2))), (0, .ref qm), (1, .int (zI v0))] := hl
        rw [← zI_n hv2] at hl
        subst hri
        exact kx H locs ls hP hD hS (lv_sub hl [0, 1, 2] rfl)
      · refine lv_aload_n hx hb d_Model_source_15 rfl (lv_at hl 1 rfl) ?_
        refine va_get (D := (dC, dI)) (ci := 13) (v := .ref q_from) (C := R_Model) (T := F_Model) (N := 71) hx hb hts i_Model hown hK hP 0 rfl rfl 54 (by decide) (hts _ k_928) (fun _ h9 => h9) rfl d_Model_source_16 ?_
        refine lv_iload_n hx hb d_Model_source_19 rfl (lv_at hl 0 rfl) ?_
        refine nv_iald hx hb hK hP 1 1 rfl rfl (by omega) (by decide) d_Model_source_20 ?_
        refine lv_iconst (v := (-1)) hx hb d_Model_source_21 (by decide) ?_
        refine nv_cicmp_eq (tgt := 35) hx hb (by omega) d_Model_source_22 (by decide) (fun c_3 => ?_) (fun c_3 => ?_)
        · have hri : v = r := by rw [← hr, src_stp (Or.inr (Or.inr c_3))]
          have hl : lv_has ls 3 [(2, .int (nI (v - 2))), (0, .ref qm), (1, .int (zI v0))] := hl
          rw [← zI_n hv2] at hl
          subst hri
          exact kx H locs ls hP hD hS (lv_sub hl [0, 1, 2] rfl)
        · refine lv_aload_n hx hb d_Model_source_25 rfl (lv_at hl 1 rfl) ?_
          refine va_get (D := (dC, dI)) (ci := 13) (v := .ref q_from) (C := R_Model) (T := F_Model) (N := 71) hx hb hts i_Model hown hK hP 0 rfl rfl 54 (by decide) (hts _ k_928) (fun _ h9 => h9) rfl d_Model_source_26 ?_
          refine lv_iload_n hx hb d_Model_source_29 rfl (lv_at hl 0 rfl) ?_
          refine nv_iald hx hb hK hP 1 1 rfl rfl (by omega) (by decide) d_Model_source_30 ?_
          refine lv_istore_n (lv' := [(2, .int (zI (fr (v - 2)))), (0, .ref qm), (1, .int (zI v0))]) hx hb d_Model_source_31 rfl hl (by decide) rfl (fun ls hl => ?_)
          refine lv_goto (tgt := 2) hx hb d_Model_source_32 (by decide) ?_
          cases j with
          | zero => exact absurd hs (by rintro (q9 | q9 | q9); exact absurd q9 (show ¬ v < 2 by omega); exact q9 c_2; exact c_3 q9)
          | succ j =>
            have e1 : src gb fr (j + 1) v = src gb fr j (fr (v - 2)) := by show (if v < 2 then v else if gb (v - 2) = 0 then (if fr (v - 2) = 1 then v else src gb fr j (fr (v - 2))) else v) = _; rw [if_neg (by omega), if_pos c_2, if_neg c_3]
            exact ih j (fr (v - 2)) H locs ls (by omega) (by omega) (by rw [← e1]; exact hs) (by rw [← e1]; exact hr) hP hD hS (lv_sub hl [0, 1, 2] rfl)
set_option maxHeartbeats 4000000 in
set_option maxRecDepth 100000 in
/-- source(v) -/
theorem c_Model_source (l : Launch) (dC : Nat → ClassId) (dI : Nat → Nat → Nat) (cB cI cL cZ cC cO : ClassId) {qm q_from q_gateOfBit : Nat}{f0 f1 f2 f3 f4 f5 f6 f7 f8 f9 f10 f11 f12 f13 f14 f15 f16 f17 f18 f19 f20 f21 f22 f23 f24 f25 f26 f27 f28 f29 f30 f31 f32 f33 f34 f35 f36 f37 f38 f39 f40 f41 f42 f43 f44 f45 f46 f47 f48 f49 f50 f51 f52 f53 f56 f57 f58 f59 f60 f61 f62 f63 f64 f65 f66 f67 f68 f69 f70 : Value} (fr gb : Nat → Nat) (v j : Nat) (sz : Nat) (hfr : ∀ i, i < 8000 → fr i < 8002) (hgb : ∀ i, gb i ≤ 300) (hv : v < 8002) (hs : stp gb fr (src gb fr j v)) : Met l y_Model_source w_Model_source ({ frames := 0, cells := 0, slots := 0, locals := 0 }) (va_Pc [.ref qm, .int (zI v)] (wB (dC, dI) cl [(cB, .byte), (cI, .int), (cL, .long), (cZ, .boolean), (cC, .char), (cO, .object "java/lang/Object")] sz [(qm, .inr (13, [f0, f1, f2, f3, f4, f5, f6, f7, f8, f9, f10, f11, f12, f13, f14, f15, f16, f17, f18, f19, f20, f21, f22, f23, f24, f25, f26, f27, f28, f29, f30, f31, f32, f33, f34, f35, f36, f37, f38, f39, f40, f41, f42, f43, f44, f45, f46, f47, f48, f49, f50, f51, f52, f53, .ref q_from, .ref q_gateOfBit, f56, f57, f58, f59, f60, f61, f62, f63, f64, f65, f66, f67, f68, f69, f70])), (q_from, .inl (cI, 8000, .inl (zF fr))), (q_gateOfBit, .inl (cI, 8000, .inl (nF gb)))])) (va_Qi (fun (r : Int32) (u : Unit) => r = zI (src gb fr j v)) (fun _ t => wA (dC, dI) cl [(cB, .byte), (cI, .int), (cL, .long), (cZ, .boolean), (cC, .char), (cO, .object "java/lang/Object")] (va_A [(qm, .inr (13, [f0, f1, f2, f3, f4, f5, f6, f7, f8, f9, f10, f11, f12, f13, f14, f15, f16, f17, f18, f19, f20, f21, f22, f23, f24, f25, f26, f27, f28, f29, f30, f31, f32, f33, f34, f35, f36, f37, f38, f39, f40, f41, f42, f43, f44, f45, f46, f47, f48, f49, f50, f51, f52, f53, .ref q_from, .ref q_gateOfBit, f56, f57, f58, f59, f60, f61, f62, f63, f64, f65, f66, f67, f68, f69, f70])), (q_from, .inl (cI, 8000, .inl (zF fr))), (q_gateOfBit, .inl (cI, 8000, .inl (nF gb)))] sz) [(qm, .inr (13, [f0, f1, f2, f3, f4, f5, f6, f7, f8, f9, f10, f11, f12, f13, f14, f15, f16, f17, f18, f19, f20, f21, f22, f23, f24, f25, f26, f27, f28, f29, f30, f31, f32, f33, f34, f35, f36, f37, f38, f39, f40, f41, f42, f43, f44, f45, f46, f47, f48, f49, f50, f51, f52, f53, .ref q_from, .ref q_gateOfBit, f56, f57, f58, f59, f60, f61, f62, f63, f64, f65, f66, f67, f68, f69, f70])), (q_from, .inl (cI, 8000, .inl (zF fr))), (q_gateOfBit, .inl (cI, 8000, .inl (nF gb)))] t) (va_A [(qm, .inr (13, [f0, f1, f2, f3, f4, f5, f6, f7, f8, f9, f10, f11, f12, f13, f14, f15, f16, f17, f18, f19, f20, f21, f22, f23, f24, f25, f26, f27, f28, f29, f30, f31, f32, f33, f34, f35, f36, f37, f38, f39, f40, f41, f42, f43, f44, f45, f46, f47, f48, f49, f50, f51, f52, f53, .ref q_from, .ref q_gateOfBit, f56, f57, f58, f59, f60, f61, f62, f63, f64, f65, f66, f67, f68, f69, f70])), (q_from, .inl (cI, 8000, .inl (zF fr))), (q_gateOfBit, .inl (cI, 8000, .inl (nF gb)))] sz)) 0 0 (va_A [(qm, .inr (13, [f0, f1, f2, f3, f4, f5, f6, f7, f8, f9, f10, f11, f12, f13, f14, f15, f16, f17, f18, f19, f20, f21, f22, f23, f24, f25, f26, f27, f28, f29, f30, f31, f32, f33, f34, f35, f36, f37, f38, f39, f40, f41, f42, f43, f44, f45, f46, f47, f48, f49, f50, f51, f52, f53, .ref q_from, .ref q_gateOfBit, f56, f57, f58, f59, f60, f61, f62, f63, f64, f65, f66, f67, f68, f69, f70])), (q_from, .inl (cI, 8000, .inl (zF fr))), (q_gateOfBit, .inl (cI, 8000, .inl (nF gb)))] sz) := by
  refine Met.ofW (cc := b_Model_source) (maxL := 3) (ret := (some ClassFile.FieldType.int)) (by decide) rfl ?_
  intro p e s m args below meth c s₁ B hml hv
  obtain ⟨rfl, hsz, hP, hK, hD0, hF⟩ := hv
  have hx := B.exec
  have hb := B.bytes
  have hr := B.returns
  have hts := atoms_spec (ws := w_Model_source) B.pre
  have hts : ∀ w ∈ tb, w.before _ s = true := fun w h => hts w (List.mem_cons_of_mem _ h)
  have hown : s.vm.findClass R_Model = some m.cls := findClass_of_methodNamed B.named
  have hlocks := B.notSynchronized
  subst hsz
  have hD := hD0.self (sz := s.heap.size)
  generalize hAe : va_A [(qm, .inr (13, [f0, f1, f2, f3, f4, f5, f6, f7, f8, f9, f10, f11, f12, f13, f14, f15, f16, f17, f18, f19, f20, f21, f22, f23, f24, f25, f26, f27, f28, f29, f30, f31, f32, f33, f34, f35, f36, f37, f38, f39, f40, f41, f42, f43, f44, f45, f46, f47, f48, f49, f50, f51, f52, f53, .ref q_from, .ref q_gateOfBit, f56, f57, f58, f59, f60, f61, f62, f63, f64, f65, f66, f67, f68, f69, f70])), (q_from, .inl (cI, 8000, .inl (zF fr))), (q_gateOfBit, .inl (cI, 8000, .inl (nF gb)))] s.heap.size = A at hD hF ⊢
  have hA : ∀ q : Nat, s.heap.size ≤ q → A q := fun q h => by rw [← hAe]; exact Or.inr h
  have hS : va_S A s.heap s.heap [] := va_S.rf
  have hP : va_P (dC, dI) cl [(qm, .inr (13, [f0, f1, f2, f3, f4, f5, f6, f7, f8, f9, f10, f11, f12, f13, f14, f15, f16, f17, f18, f19, f20, f21, f22, f23, f24, f25, f26, f27, f28, f29, f30, f31, f32, f33, f34, f35, f36, f37, f38, f39, f40, f41, f42, f43, f44, f45, f46, f47, f48, f49, f50, f51, f52, f53, .ref q_from, .ref q_gateOfBit, f56, f57, f58, f59, f60, f61, f62, f63, f64, f65, f66, f67, f68, f69, f70])), (q_from, .inl (cI, 8000, .inl (zF fr))), (q_gateOfBit, .inl (cI, 8000, .inl (nF gb)))] s.heap := hP
  have hl := lv_entry ([.ref qm, .int (zI v)]) (n := 3) (Nat.le_of_ble_eq_true rfl)
  rw [lg_entry_eq]
  generalize (lg_sl ([.ref qm, .int (zI v)]) ++ List.replicate (3 - (lg_sl ([.ref qm, .int (zI v)])).length) Slot.unset).toArray = ls at hl ⊢
  have hl : lv_has ls 3 [(0, .ref qm), (1, .int (zI v))] := hl
  refine lv_iload_n hx hb d_Model_source_0 rfl (lv_at hl 1 rfl) ?_
  refine lv_istore_n (lv' := [(2, .int (zI v)), (0, .ref qm), (1, .int (zI v))]) hx hb d_Model_source_1 rfl hl (by decide) rfl (fun ls hl => ?_)
  refine lp_Model_source (v0 := v) (r := src gb fr j v) hfr hgb hx hb hml hown hts hA hF hK (fun H locs ls hP hD hS hl => ?_) (j + 1) j v _ _ ls rfl hv hs rfl hP hD hS (lv_sub hl [0, 1, 2] rfl)
  refine lv_iload_n hx hb d_Model_source_35 rfl (lv_at hl 0 rfl) ?_
  exact wr_i hx hb hr hlocks () rfl hK hP hD hS d_Model_source_36
