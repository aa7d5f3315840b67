theorem d_Model_place_0 : decode b_Model_place 0 = .ok (.aload_n 0, 1) := by decide +kernel
theorem d_Model_place_1 : decode b_Model_place 1 = .ok (.getfield 17, 3) := by decide +kernel
theorem d_Model_place_4 : decode b_Model_place 4 = .ok (.ireturn, 1) := by decide +kernel
set_option maxHeartbeats 4000000 in
set_option maxRecDepth 100000 in
/-- place() -/
theorem c_Model_place (l : Launch) (dC : Nat → ClassId) (dI : Nat → Nat → Nat) (cB cI cL cZ cC cO : ClassId) {qm  : Nat}{f0 f1 f2 f3 f5 f6 f7 f8 f9 f10 f11 f12 f13 f14 f15 f16 f17 f18 f19 f20 f21 f22 f23 f24 f25 f26 f27 f28 f29 f30 f31 f32 f33 f34 f35 f36 f37 f38 f39 f40 f41 f42 f43 f44 f45 f46 f47 f48 f49 f50 f51 f52 f53 f54 f55 f56 f57 f58 f59 f60 f61 f62 f63 f64 f65 f66 f67 f68 f69 f70 : Value} (x : Int32) (sz : Nat)  : Met l y_Model_place w_Model_place ({ frames := 0, cells := 0, slots := 0, locals := 0 }) (va_Pc [.ref qm] (wB (dC, dI) cl [(cB, .byte), (cI, .int), (cL, .long), (cZ, .boolean), (cC, .char), (cO, .object "java/lang/Object")] sz [(qm, .inr (13, [f0, f1, f2, f3, .int x, f5, f6, f7, f8, f9, f10, f11, f12, f13, f14, f15, f16, f17, f18, f19, f20, f21, f22, f23, f24, f25, f26, f27, f28, f29, f30, f31, f32, f33, f34, f35, f36, f37, f38, f39, f40, f41, f42, f43, f44, f45, f46, f47, f48, f49, f50, f51, f52, f53, f54, f55, f56, f57, f58, f59, f60, f61, f62, f63, f64, f65, f66, f67, f68, f69, f70]))])) (va_Qi (fun (r : Int32) (u : Unit) => r = x) (fun _ t => wA (dC, dI) cl [(cB, .byte), (cI, .int), (cL, .long), (cZ, .boolean), (cC, .char), (cO, .object "java/lang/Object")] (va_A [(qm, .inr (13, [f0, f1, f2, f3, .int x, f5, f6, f7, f8, f9, f10, f11, f12, f13, f14, f15, f16, f17, f18, f19, f20, f21, f22, f23, f24, f25, f26, f27, f28, f29, f30, f31, f32, f33, f34, f35, f36, f37, f38, f39, f40, f41, f42, f43, f44, f45, f46, f47, f48, f49, f50, f51, f52, f53, f54, f55, f56, f57, f58, f59, f60, f61, f62, f63, f64, f65, f66, f67, f68, f69, f70]))] sz) [(qm, .inr (13, [f0, f1, f2, f3, .int x, f5, f6, f7, f8, f9, f10, f11, f12, f13, f14, f15, f16, f17, f18, f19, f20, f21, f22, f23, f24, f25, f26, f27, f28, f29, f30, f31, f32, f33, f34, f35, f36, f37, f38, f39, f40, f41, f42, f43, f44, f45, f46, f47, f48, f49, f50, f51, f52, f53, f54, f55, f56, f57, f58, f59, f60, f61, f62, f63, f64, f65, f66, f67, f68, f69, f70]))] t) (va_A [(qm, .inr (13, [f0, f1, f2, f3, .int x, f5, f6, f7, f8, f9, f10, f11, f12, f13, f14, f15, f16, f17, f18, f19, f20, f21, f22, f23, f24, f25, f26, f27, f28, f29, f30, f31, f32, f33, f34, f35, f36, f37, f38, f39, f40, f41, f42, f43, f44, f45, f46, f47, f48, f49, f50, f51, f52, f53, f54, f55, f56, f57, f58, f59, f60, f61, f62, f63, f64, f65, f66, f67, f68, f69, f70]))] sz)) 0 0 (va_A [(qm, .inr (13, [f0, f1, f2, f3, .int x, f5, f6, f7, f8, f9, f10, f11, f12, f13, f14, f15, f16, f17, f18, f19, f20, f21, f22, f23, f24, f25, f26, f27, f28, f29, f30, f31, f32, f33, f34, f35, f36, f37, f38, f39, f40, f41, f42, f43, f44, f45, f46, f47, f48, f49, f50, f51, f52, f53, f54, f55, f56, f57, f58, f59, f60, f61, f62, f63, f64, f65, f66, f67, f68, f69, f70]))] sz) := by
  refine Met.ofW (cc := b_Model_place) (maxL := 1) (ret := (some ClassFile.FieldType.int)) (by decide) rfl ?_
  intro p e s m args below meth c s₁ B hml hv
  obtain ⟨rfl, hsz, hP, hK, hD0, hF⟩ := hv
  have hx := B.exec
  have hb := B.bytes
  have hr := B.returns
  have hts := atoms_spec (ws := w_Model_place) B.pre
  have hts : ∀ w ∈ tb, w.before _ s = true := fun w h => hts w (List.mem_cons_of_mem _ h)
  have hown : s.vm.findClass R_Model = some m.cls := findClass_of_methodNamed B.named
  have hlocks := B.notSynchronized
  subst hsz
  have hD := hD0.self (sz := s.heap.size)
  generalize hAe : va_A [(qm, .inr (13, [f0, f1, f2, f3, .int x, f5, f6, f7, f8, f9, f10, f11, f12, f13, f14, f15, f16, f17, f18, f19, f20, f21, f22, f23, f24, f25, f26, f27, f28, f29, f30, f31, f32, f33, f34, f35, f36, f37, f38, f39, f40, f41, f42, f43, f44, f45, f46, f47, f48, f49, f50, f51, f52, f53, f54, f55, f56, f57, f58, f59, f60, f61, f62, f63, f64, f65, f66, f67, f68, f69, f70]))] s.heap.size = A at hD hF ⊢
  have hA : ∀ q : Nat, s.heap.size ≤ q → A q := fun q h => by rw [← hAe]; exact Or.inr h
  have hS : va_S A s.heap s.heap [] := va_S.rf
  have hP : va_P (dC, dI) cl [(qm, .inr (13, [f0, f1, f2, f3, .int x, f5, f6, f7, f8, f9, f10, f11, f12, f13, f14, f15, f16, f17, f18, f19, f20, f21, f22, f23, f24, f25, f26, f27, f28, f29, f30, f31, f32, f33, f34, f35, f36, f37, f38, f39, f40, f41, f42, f43, f44, f45, f46, f47, f48, f49, f50, f51, f52, f53, f54, f55, f56, f57, f58, f59, f60, f61, f62, f63, f64, f65, f66, f67, f68, f69, f70]))] s.heap := hP
  have hl := lv_entry ([.ref qm]) (n := 1) (Nat.le_of_ble_eq_true rfl)
  rw [lg_entry_eq]
  generalize (lg_sl ([.ref qm]) ++ List.replicate (1 - (lg_sl ([.ref qm])).length) Slot.unset).toArray = ls at hl ⊢
  have hl : lv_has ls 1 [(0, .ref qm)] := hl
  refine lv_aload_n hx hb d_Model_place_0 rfl (lv_at hl 0 rfl) ?_
  refine va_get (D := (dC, dI)) (ci := 13) (v := .int x) (C := R_Model) (T := F_Model) (N := 71) hx hb hts i_Model hown hK hP 0 rfl rfl 4 (by decide) (hts _ k_878) (fun _ h9 => h9) rfl d_Model_place_1 ?_
  exact wr_i hx hb hr hlocks () rfl hK hP hD hS d_Model_place_4
def m_at (ft : Nat → Int32) (n k : Nat) : Int32 := if k < n then ft k else -1
theorem d_Model_at_0 : decode b_Model_at 0 = .ok (.iload_n 1, 1) := by decide +kernel
theorem d_Model_at_1 : decode b_Model_at 1 = .ok (.aload_n 0, 1) := by decide +kernel
theorem d_Model_at_2 : decode b_Model_at 2 = .ok (.getfield 161, 3) := by decide +kernel
theorem d_Model_at_5 : decode b_Model_at 5 = .ok (.if_icmp .ge 12, 3) := by decide +kernel
theorem d_Model_at_8 : decode b_Model_at 8 = .ok (.aload_n 0, 1) := by decide +kernel
theorem d_Model_at_9 : decode b_Model_at 9 = .ok (.getfield 13, 3) := by decide +kernel
theorem d_Model_at_12 : decode b_Model_at 12 = .ok (.iload_n 1, 1) := by decide +kernel
theorem d_Model_at_13 : decode b_Model_at 13 = .ok (.iaload, 1) := by decide +kernel
theorem d_Model_at_14 : decode b_Model_at 14 = .ok (.goto 4, 3) := by decide +kernel
theorem d_Model_at_17 : decode b_Model_at 17 = .ok (.iconst (-1), 1) := by decide +kernel
theorem d_Model_at_18 : decode b_Model_at 18 = .ok (.ireturn, 1) := by decide +kernel
set_option maxHeartbeats 4000000 in
set_option maxRecDepth 100000 in
/-- at(k) -/
theorem c_Model_at (l : Launch) (dC : Nat → ClassId) (dI : Nat → Nat → Nat) (cB cI cL cZ cC cO : ClassId) {qm q_text : Nat}{f0 f2 f4 f5 f6 f7 f8 f9 f10 f11 f12 f13 f14 f15 f16 f17 f18 f19 f20 f21 f22 f23 f24 f25 f26 f27 f28 f29 f30 f31 f32 f33 f34 f35 f36 f37 f38 f39 f40 f41 f42 f43 f44 f45 f46 f47 f48 f49 f50 f51 f52 f53 f54 f55 f56 f57 f58 f59 f60 f61 f62 f63 f64 f65 f66 f67 f68 f69 f70 : Value} (ft : Nat → Int32) (n k : Nat) (sz : Nat) (hn : n ≤ 2000) (hk : k < 2 ^ 31) : Met l y_Model_at w_Model_at ({ frames := 0, cells := 0, slots := 0, locals := 0 }) (va_Pc [.ref qm, .int (nI k)] (wB (dC, dI) cl [(cB, .byte), (cI, .int), (cL, .long), (cZ, .boolean), (cC, .char), (cO, .object "java/lang/Object")] sz [(qm, .inr (13, [f0, .ref q_text, f2, .int (nI n), f4, f5, f6, f7, f8, f9, f10, f11, f12, f13, f14, f15, f16, f17, f18, f19, f20, f21, f22, f23, f24, f25, f26, f27, f28, f29, f30, f31, f32, f33, f34, f35, f36, f37, f38, f39, f40, f41, f42, f43, f44, f45, f46, f47, f48, f49, f50, f51, f52, f53, f54, f55, f56, f57, f58, f59, f60, f61, f62, f63, f64, f65, f66, f67, f68, f69, f70])), (q_text, .inl (cI, 2000, .inl ft))])) (va_Qi (fun (r : Int32) (u : Unit) => r = m_at ft n k) (fun _ t => wA (dC, dI) cl [(cB, .byte), (cI, .int), (cL, .long), (cZ, .boolean), (cC, .char), (cO, .object "java/lang/Object")] (va_A [(qm, .inr (13, [f0, .ref q_text, f2, .int (nI n), f4, f5, f6, f7, f8, f9, f10, f11, f12, f13, f14, f15, f16, f17, f18, f19, f20, f21, f22, f23, f24, f25, f26, f27, f28, f29, f30, f31, f32, f33, f34, f35, f36, f37, f38, f39, f40, f41, f42, f43, f44, f45, f46, f47, f48, f49, f50, f51, f52, f53, f54, f55, f56, f57, f58, f59, f60, f61, f62, f63, f64, f65, f66, f67, f68, f69, f70])), (q_text, .inl (cI, 2000, .inl ft))] sz) [(qm, .inr (13, [f0, .ref q_text, f2, .int (nI n), f4, f5, f6, f7, f8, f9, f10, f11, f12, f13, f14, f15, f16, f17, f18, f19, f20, f21, f22, f23, f24, f25, f26, f27, f28, f29, f30, f31, f32, f33, f34, f35, f36, f37, f38, f39, f40, f41, f42, f43, f44, f45, f46, f47, f48, f49, f50, f51, f52, f53, f54, f55, f56, f57, f58, f59, f60, f61, f62, f63, f64, f65, f66, f67, f68, f69, f70])), (q_text, .inl (cI, 2000, .inl ft))] t) (va_A [(qm, .inr (13, [f0, .ref q_text, f2, .int (nI n), f4, f5, f6, f7, f8, f9, f10, f11, f12, f13, f14, f15, f16, f17, f18, f19, f20, f21, f22, f23, f24, f25, f26, f27, f28, f29, f30, f31, f32, f33, f34, f35, f36, f37, f38, f39, f40, f41, f42, f43, f44, f45, f46, f47, f48, f49, f50, f51, f52, f53, f54, f55, f56, f57, f58, f59, f60, f61, f62, f63, f64, f65, f66, f67, f68, f69, f70])), (q_text, .inl (cI, 2000, .inl ft))] sz)) 0 0 (va_A [(qm, .inr (13, [f0, .ref q_text, f2, .int (nI n), f4, f5, f6, f7, f8, f9, f10, f11, f12, f13, f14, f15, f16, f17, f18, f19, f20, f21, f22, f23, f24, f25, f26, f27, f28, f29, f30, f31, f32, f33, f34, f35, f36, f37, f38, f39, f40, f41, f42, f43, f44, f45, f46, f47, f48, f49, f50, f51, f52, f53, f54, f55, f56, f57, f58, f59, f60, f61, f62, f63, f64, f65, f66, f67, f68, f69, f70])), (q_text, .inl (cI, 2000, .inl ft))] sz) := by
  refine Met.ofW (cc := b_Model_at) (maxL := 2) (ret := (some ClassFile.FieldType.int)) (by decide) rfl ?_
  intro p e s m args below meth c s₁ B hml hv
  obtain ⟨rfl, hsz, hP, hK, hD0, hF⟩ := hv
  have hx := B.exec
  have hb := B.bytes
  have hr := B.returns
  have hts := atoms_spec (ws := w_Model_at) B.pre
  have hts : ∀ w ∈ tb, w.before _ s = true := fun w h => hts w (List.mem_cons_of_mem _ h)
  have hown : s.vm.findClass R_Model = some m.cls := findClass_of_methodNamed B.named
  have hlocks := B.notSynchronized
  subst hsz
  have hD := hD0.self (sz := s.heap.size)
  generalize hAe : va_A [(qm, .inr (13, [f0, .ref q_text, f2, .int (nI n), f4, f5, f6, f7, f8, f9, f10, f11, f12, f13, f14, f15, f16, f17, f18, f19, f20, f21, f22, f23, f24, f25, f26, f27, f28, f29, f30, f31, f32, f33, f34, f35, f36, f37, f38, f39, f40, f41, f42, f43, f44, f45, f46, f47, f48, f49, f50, f51, f52, f53, f54, f55, f56, f57, f58, f59, f60, f61, f62, f63, f64, f65, f66, f67, f68, f69, f70])), (q_text, .inl (cI, 2000, .inl ft))] s.heap.size = A at hD hF ⊢
  have hA : ∀ q : Nat, s.heap.size ≤ q → A q := fun q h => by rw [← hAe]; exact Or.inr h
  have hS : va_S A s.heap s.heap [] := va_S.rf
  have hP : va_P (dC, dI) cl [(qm, .inr (13, [f0, .ref q_text, f2, .int (nI n), f4, f5, f6, f7, f8, f9, f10, f11, f12, f13, f14, f15, f16, f17, f18, f19, f20, f21, f22, f23, f24, f25, f26, f27, f28, f29, f30, f31, f32, f33, f34, f35, f36, f37, f38, f39, f40, f41, f42, f43, f44, f45, f46, f47, f48, f49, f50, f51, f52, f53, f54, f55, f56, f57, f58, f59, f60, f61, f62, f63, f64, f65, f66, f67, f68, f69, f70])), (q_text, .inl (cI, 2000, .inl ft))] s.heap := hP
  have hl := lv_entry ([.ref qm, .int (nI k)]) (n := 2) (Nat.le_of_ble_eq_true rfl)
  rw [lg_entry_eq]
  generalize (lg_sl ([.ref qm, .int (nI k)]) ++ List.replicate (2 - (lg_sl ([.ref qm, .int (nI k)])).length) Slot.unset).toArray = ls at hl ⊢
  have hl : lv_has ls 2 [(0, .ref qm), (1, .int (nI k))] := hl
  refine lv_iload_n hx hb d_Model_at_0 rfl (lv_at hl 1 rfl) ?_
  refine lv_aload_n hx hb d_Model_at_1 rfl (lv_at hl 0 rfl) ?_
  refine va_get (D := (dC, dI)) (ci := 13) (v := .int (nI n)) (C := R_Model) (T := F_Model) (N := 71) hx hb hts i_Model hown hK hP 0 rfl rfl 3 (by decide) (hts _ k_877) (fun _ h9 => h9) rfl d_Model_at_2 ?_
  refine nv_icmp_ge (tgt := 17) hx hb (by omega) (by omega) d_Model_at_5 (by decide) (fun c_1 => ?_) (fun c_1 => ?_)
  · refine lv_iconst (v := (-1)) hx hb d_Model_at_17 (by decide) ?_
    exact wr_i hx hb hr hlocks () (by unfold m_at; first | rw [if_pos (by omega)] | rw [if_neg (by omega)]) hK hP hD hS d_Model_at_18
  · refine lv_aload_n hx hb d_Model_at_8 rfl (lv_at hl 0 rfl) ?_
    refine va_get (D := (dC, dI)) (ci := 13) (v := .ref q_text) (C := R_Model) (T := F_Model) (N := 71) hx hb hts i_Model hown hK hP 0 rfl rfl 1 (by decide) (hts _ k_875) (fun _ h9 => h9) rfl d_Model_at_9 ?_
    refine lv_iload_n hx hb d_Model_at_12 rfl (lv_at hl 1 rfl) ?_
    refine nv_iald hx hb hK hP 1 1 rfl rfl (by omega) (by decide) d_Model_at_13 ?_
    refine lv_goto (tgt := 18) hx hb d_Model_at_14 (by decide) ?_
    exact wr_i hx hb hr hlocks () (by unfold m_at; first | rw [if_pos (by omega)] | rw [if_neg (by omega)]) hK hP hD hS d_Model_at_18
def m_letter (c : Int32) : Bool := (!decide (c < nI 97) && decide (c ≤ nI 122)) || (!decide (c < nI 65) && !decide (nI 90 < c))
def m_wordb (c : Int32) : Bool := m_letter c || (tx_digit c || decide (c = nI 95))
theorem d_Model_isLetter_0 : decode b_Model_isLetter 0 = .ok (.iload_n 0, 1) := by decide +kernel
theorem d_Model_isLetter_1 : decode b_Model_isLetter 1 = .ok (.bipush 97, 2) := by decide +kernel
theorem d_Model_isLetter_3 : decode b_Model_isLetter 3 = .ok (.if_icmp .lt 9, 3) := by decide +kernel
theorem d_Model_isLetter_6 : decode b_Model_isLetter 6 = .ok (.iload_n 0, 1) := by decide +kernel
theorem d_Model_isLetter_7 : decode b_Model_isLetter 7 = .ok (.bipush 122, 2) := by decide +kernel
theorem d_Model_isLetter_9 : decode b_Model_isLetter 9 = .ok (.if_icmp .le 15, 3) := by decide +kernel
theorem d_Model_isLetter_12 : decode b_Model_isLetter 12 = .ok (.iload_n 0, 1) := by decide +kernel
theorem d_Model_isLetter_13 : decode b_Model_isLetter 13 = .ok (.bipush 65, 2) := by decide +kernel
theorem d_Model_isLetter_15 : decode b_Model_isLetter 15 = .ok (.if_icmp .lt 13, 3) := by decide +kernel
theorem d_Model_isLetter_18 : decode b_Model_isLetter 18 = .ok (.iload_n 0, 1) := by decide +kernel
theorem d_Model_isLetter_19 : decode b_Model_isLetter 19 = .ok (.bipush 90, 2) := by decide +kernel
theorem d_Model_isLetter_21 : decode b_Model_isLetter 21 = .ok (.if_icmp .gt 7, 3) := by decide +kernel
theorem d_Model_isLetter_24 : decode b_Model_isLetter 24 = .ok (.iconst 1, 1) := by decide +kernel
theorem d_Model_isLetter_25 : decode b_Model_isLetter 25 = .ok (.goto 4, 3) := by decide +kernel
theorem d_Model_isLetter_28 : decode b_Model_isLetter 28 = .ok (.iconst 0, 1) := by decide +kernel
theorem d_Model_isLetter_29 : decode b_Model_isLetter 29 = .ok (.ireturn, 1) := by decide +kernel
set_option maxHeartbeats 4000000 in
set_option maxRecDepth 100000 in
/-- isLetter -/
theorem c_Model_isLetter (l : Launch) (dC : Nat → ClassId) (dI : Nat → Nat → Nat) (cB cI cL cZ cC cO : ClassId) (ch : Int32) (sz : Nat)  : Met l y_Model_isLetter w_Model_isLetter ({ frames := 0, cells := 0, slots := 0, locals := 0 }) (va_Pc [.int ch] (wB (dC, dI) cl [(cB, .byte), (cI, .int), (cL, .long), (cZ, .boolean), (cC, .char), (cO, .object "java/lang/Object")] sz [])) (va_Qi (fun (r : Int32) (u : Unit) => r = bI (m_letter ch)) (fun _ t => wA (dC, dI) cl [(cB, .byte), (cI, .int), (cL, .long), (cZ, .boolean), (cC, .char), (cO, .object "java/lang/Object")] (va_A [] sz) [] t) (va_A [] sz)) 0 0 (va_A [] sz) := by
  refine Met.ofW (cc := b_Model_isLetter) (maxL := 1) (ret := (some ClassFile.FieldType.boolean)) (by decide) rfl ?_
  intro p e s m args below meth c s₁ B hml hv
  obtain ⟨rfl, hsz, hP, hK, hD0, hF⟩ := hv
  have hx := B.exec
  have hb := B.bytes
  have hr := B.returns
  have hts := atoms_spec (ws := w_Model_isLetter) B.pre
  have hts : ∀ w ∈ tb, w.before _ s = true := fun w h => hts w (List.mem_cons_of_mem _ h)
  have hown : s.vm.findClass R_Model = some m.cls := findClass_of_methodNamed B.named
  have hlocks := B.notSynchronized
  subst hsz
  have hD := hD0.self (sz := s.heap.size)
  generalize hAe : va_A [] s.heap.size = A at hD hF ⊢
  have hA : ∀ q : Nat, s.heap.size ≤ q → A q := fun q h => by rw [← hAe]; exact Or.inr h
  have hS : va_S A s.heap s.heap [] := va_S.rf
  have hP : va_P (dC, dI) cl [] s.heap := hP
  have hl := lv_entry ([.int ch]) (n := 1) (Nat.le_of_ble_eq_true rfl)
  rw [lg_entry_eq]
  generalize (lg_sl ([.int ch]) ++ List.replicate (1 - (lg_sl ([.int ch])).length) Slot.unset).toArray = ls at hl ⊢
  have hl : lv_has ls 1 [(0, .int ch)] := hl
  refine lv_iload_n hx hb d_Model_isLetter_0 rfl (lv_at hl 0 rfl) ?_
  refine lv_bipush (v := nI 97) hx hb d_Model_isLetter_1 (by decide) ?_
  refine lv_icmp_lt (tgt := 12) hx hb d_Model_isLetter_3 (by decide) (fun c_1 => ?_) (fun c_1 => ?_)
  · refine lv_iload_n hx hb d_Model_isLetter_12 rfl (lv_at hl 0 rfl) ?_
    refine lv_bipush (v := nI 65) hx hb d_Model_isLetter_13 (by decide) ?_
    refine lv_icmp_lt (tgt := 28) hx hb d_Model_isLetter_15 (by decide) (fun c_2 => ?_) (fun c_2 => ?_)
    · refine lv_iconst (v := nI 0) hx hb d_Model_isLetter_28 (by decide) ?_
      exact wr_z (x := false) hx hb hr hlocks () (congrArg bI (by simp [m_letter, c_1, c_2])) hK hP hD hS d_Model_isLetter_29
    · refine lv_iload_n hx hb d_Model_isLetter_18 rfl (lv_at hl 0 rfl) ?_
      refine lv_bipush (v := nI 90) hx hb d_Model_isLetter_19 (by decide) ?_
      refine lv_icmp_gt (tgt := 28) hx hb d_Model_isLetter_21 (by decide) (fun c_3 => ?_) (fun c_3 => ?_)
      · refine lv_iconst (v := nI 0) hx hb d_Model_isLetter_28 (by decide) ?_
        exact wr_z (x := false) hx hb hr hlocks () (congrArg bI (by simp [m_letter, c_1, c_2, c_3])) hK hP hD hS d_Model_isLetter_29
      · refine lv_iconst (v := nI 1) hx hb d_Model_isLetter_24 (by decide) ?_
        refine lv_goto (tgt := 29) hx hb d_Model_isLetter_25 (by decide) ?_
        exact wr_z (x := true) hx hb hr hlocks () (congrArg bI (by simp [m_letter, c_1, c_2, c_3])) hK hP hD hS d_Model_isLetter_29
  · refine lv_iload_n hx hb d_Model_isLetter_6 rfl (lv_at hl 0 rfl) ?_
    refine lv_bipush (v := nI 122) hx hb d_Model_isLetter_7 (by decide) ?_
    refine lv_icmp_le (tgt := 24) hx hb d_Model_isLetter_9 (by decide) (fun c_4 => ?_) (fun c_4 => ?_)
    · refine lv_iconst (v := nI 1) hx hb d_Model_isLetter_24 (by decide) ?_
      refine lv_goto (tgt := 29) hx hb d_Model_isLetter_25 (by decide) ?_
      exact wr_z (x := true) hx hb hr hlocks () (congrArg bI (by simp [m_letter, c_1, c_4])) hK hP hD hS d_Model_isLetter_29
    · refine lv_iload_n hx hb d_Model_isLetter_12 rfl (lv_at hl 0 rfl) ?_
      refine lv_bipush (v := nI 65) hx hb d_Model_isLetter_13 (by decide) ?_
      refine lv_icmp_lt (tgt := 28) hx hb d_Model_isLetter_15 (by decide) (fun c_5 => ?_) (fun c_5 => ?_)
      · refine lv_iconst (v := nI 0) hx hb d_Model_isLetter_28 (by decide) ?_
        exact wr_z (x := false) hx hb hr hlocks () (congrArg bI (by simp [m_letter, c_1, c_4, c_5])) hK hP hD hS d_Model_isLetter_29
      · refine lv_iload_n hx hb d_Model_isLetter_18 rfl (lv_at hl 0 rfl) ?_
        refine lv_bipush (v := nI 90) hx hb d_Model_isLetter_19 (by decide) ?_
        refine lv_icmp_gt (tgt := 28) hx hb d_Model_isLetter_21 (by decide) (fun c_6 => ?_) (fun c_6 => ?_)
        · refine lv_iconst (v := nI 0) hx hb d_Model_isLetter_28 (by decide) ?_
          exact wr_z (x := false) hx hb hr hlocks () (congrArg bI (by simp [m_letter, c_1, c_4, c_5, c_6])) hK hP hD hS d_Model_isLetter_29
        · refine lv_iconst (v := nI 1) hx hb d_Model_isLetter_24 (by decide) ?_
          refine lv_goto (tgt := 29) hx hb d_Model_isLetter_25 (by decide) ?_
          exact wr_z (x := true) hx hb hr hlocks () (congrArg bI (by simp [m_letter, c_1, c_4, c_5, c_6])) hK hP hD hS d_Model_isLetter_29
theorem d_Model_isDigit_0 : decode b_Model_isDigit 0 = .ok (.iload_n 0, 1) := by decide +kernel
theorem d_Model_isDigit_1 : decode b_Model_isDigit 1 = .ok (.bipush 48, 2) := by decide +kernel
theorem d_Model_isDigit_3 : decode b_Model_isDigit 3 = .ok (.if_icmp .lt 13, 3) := by decide +kernel
theorem d_Model_isDigit_6 : decode b_Model_isDigit 6 = .ok (.iload_n 0, 1) := by decide +kernel
theorem d_Model_isDigit_7 : decode b_Model_isDigit 7 = .ok (.bipush 57, 2) := by decide +kernel
theorem d_Model_isDigit_9 : decode b_Model_isDigit 9 = .ok (.if_icmp .gt 7, 3) := by decide +kernel
theorem d_Model_isDigit_12 : decode b_Model_isDigit 12 = .ok (.iconst 1, 1) := by decide +kernel
theorem d_Model_isDigit_13 : decode b_Model_isDigit 13 = .ok (.goto 4, 3) := by decide +kernel
theorem d_Model_isDigit_16 : decode b_Model_isDigit 16 = .ok (.iconst 0, 1) := by decide +kernel
theorem d_Model_isDigit_17 : decode b_Model_isDigit 17 = .ok (.ireturn, 1) := by decide +kernel
set_option maxHeartbeats 4000000 in
set_option maxRecDepth 100000 in
/-- isDigit -/
theorem c_Model_isDigit (l : Launch) (dC : Nat → ClassId) (dI : Nat → Nat → Nat) (cB cI cL cZ cC cO : ClassId) (ch : Int32) (sz : Nat)  : Met l y_Model_isDigit w_Model_isDigit ({ frames := 0, cells := 0, slots := 0, locals := 0 }) (va_Pc [.int ch] (wB (dC, dI) cl [(cB, .byte), (cI, .int), (cL, .long), (cZ, .boolean), (cC, .char), (cO, .object "java/lang/Object")] sz [])) (va_Qi (fun (r : Int32) (u : Unit) => r = bI (tx_digit ch)) (fun _ t => wA (dC, dI) cl [(cB, .byte), (cI, .int), (cL, .long), (cZ, .boolean), (cC, .char), (cO, .object "java/lang/Object")] (va_A [] sz) [] t) (va_A [] sz)) 0 0 (va_A [] sz) := by
  refine Met.ofW (cc := b_Model_isDigit) (maxL := 1) (ret := (some ClassFile.FieldType.boolean)) (by decide) rfl ?_
  intro p e s m args below meth c s₁ B hml hv
  obtain ⟨rfl, hsz, hP, hK, hD0, hF⟩ := hv
  have hx := B.exec
  have hb := B.bytes
  have hr := B.returns
  have hts := atoms_spec (ws := w_Model_isDigit) B.pre
  have hts : ∀ w ∈ tb, w.before _ s = true := fun w h => hts w (List.mem_cons_of_mem _ h)
  have hown : s.vm.findClass R_Model = some m.cls := findClass_of_methodNamed B.named
  have hlocks := B.notSynchronized
  subst hsz
  have hD := hD0.self (sz := s.heap.size)
  generalize hAe : va_A [] s.heap.size = A at hD hF ⊢
  have hA : ∀ q : Nat, s.heap.size ≤ q → A q := fun q h => by rw [← hAe]; exact Or.inr h
  have hS : va_S A s.heap s.heap [] := va_S.rf
  have hP : va_P (dC, dI) cl [] s.heap := hP
  have hl := lv_entry ([.int ch]) (n := 1) (Nat.le_of_ble_eq_true rfl)
  rw [lg_entry_eq]
  generalize (lg_sl ([.int ch]) ++ List.replicate (1 - (lg_sl ([.int ch])).length) Slot.unset).toArray = ls at hl ⊢
  have hl : lv_has ls 1 [(0, .int ch)] := hl
  refine lv_iload_n hx hb d_Model_isDigit_0 rfl (lv_at hl 0 rfl) ?_
  refine lv_bipush (v := nI 48) hx hb d_Model_isDigit_1 (by decide) ?_
  refine lv_icmp_lt (tgt := 16) hx hb d_Model_isDigit_3 (by decide) (fun c_1 => ?_) (fun c_1 => ?_)
  · refine lv_iconst (v := nI 0) hx hb d_Model_isDigit_16 (by decide) ?_
    exact wr_z (x := false) hx hb hr hlocks () (congrArg bI (by simp [tx_digit, c_1])) hK hP hD hS d_Model_isDigit_17
  · refine lv_iload_n hx hb d_Model_isDigit_6 rfl (lv_at hl 0 rfl) ?_
    refine lv_bipush (v := nI 57) hx hb d_Model_isDigit_7 (by decide) ?_
    refine lv_icmp_gt (tgt := 16) hx hb d_Model_isDigit_9 (by decide) (fun c_2 => ?_) (fun c_2 => ?_)
    · refine lv_iconst (v := nI 0) hx hb d_Model_isDigit_16 (by decide) ?_
      exact wr_z (x := false) hx hb hr hlocks () (congrArg bI (by simp [tx_digit, c_1, c_2])) hK hP hD hS d_Model_isDigit_17
    · refine lv_iconst (v := nI 1) hx hb d_Model_isDigit_12 (by decide) ?_
      refine lv_goto (tgt := 17) hx hb d_Model_isDigit_13 (by decide) ?_
      exact wr_z (x := true) hx hb hr hlocks () (congrArg bI (by simp [tx_digit, c_1, c_2])) hK hP hD hS d_Model_isDigit_17
theorem d_Model_isWordByte_0 : decode b_Model_isWordByte 0 = .ok (.iload_n 0, 1) := by decide +kernel
theorem d_Model_isWordByte_1 : decode b_Model_isWordByte 1 = .ok (.invokestatic 164, 3) := by decide +kernel
theorem d_Model_isWordByte_4 : decode b_Model_isWordByte 4 = .ok (.ifCond .ne 16, 3) := by decide +kernel
theorem d_Model_isWordByte_7 : decode b_Model_isWordByte 7 = .ok (.iload_n 0, 1) := by decide +kernel
theorem d_Model_isWordByte_8 : decode b_Model_isWordByte 8 = .ok (.invokestatic 168, 3) := by decide +kernel
theorem d_Model_isWordByte_11 : decode b_Model_isWordByte 11 = .ok (.ifCond .ne 9, 3) := by decide +kernel
theorem d_Model_isWordByte_14 : decode b_Model_isWordByte 14 = .ok (.iload_n 0, 1) := by decide +kernel
theorem d_Model_isWordByte_15 : decode b_Model_isWordByte 15 = .ok (.bipush 95, 2) := by decide +kernel
theorem d_Model_isWordByte_17 : decode b_Model_isWordByte 17 = .ok (.if_icmp .ne 7, 3) := by decide +kernel
theorem d_Model_isWordByte_20 : decode b_Model_isWordByte 20 = .ok (.iconst 1, 1) := by decide +kernel
theorem d_Model_isWordByte_21 : decode b_Model_isWordByte 21 = .ok (.goto 4, 3) := by decide +kernel
theorem d_Model_isWordByte_24 : decode b_Model_isWordByte 24 = .ok (.iconst 0, 1) := by decide +kernel
theorem d_Model_isWordByte_25 : decode b_Model_isWordByte 25 = .ok (.ireturn, 1) := by decide +kernel
set_option maxHeartbeats 4000000 in
set_option maxRecDepth 100000 in
/-- isWordByte -/
theorem c_Model_isWordByte (l : Launch) (dC : Nat → ClassId) (dI : Nat → Nat → Nat) (cB cI cL cZ cC cO : ClassId) (ch : Int32) (sz : Nat)  : Met l y_Model_isWordByte w_Model_isWordByte ({ frames := 1, cells := 0, slots := 0, locals := 20 }) (va_Pc [.int ch] (wB (dC, dI) cl [(cB, .byte), (cI, .int), (cL, .long), (cZ, .boolean), (cC, .char), (cO, .object "java/lang/Object")] sz [])) (va_Qi (fun (r : Int32) (u : Unit) => r = bI (m_wordb ch)) (fun _ t => wA (dC, dI) cl [(cB, .byte), (cI, .int), (cL, .long), (cZ, .boolean), (cC, .char), (cO, .object "java/lang/Object")] (va_A [] sz) [] t) (va_A [] sz)) 0 0 (va_A [] sz) := by
  refine Met.ofW (cc := b_Model_isWordByte) (maxL := 1) (ret := (some ClassFile.FieldType.boolean)) (by decide) rfl ?_
  intro p e s m args below meth c s₁ B hml hv
  obtain ⟨rfl, hsz, hP, hK, hD0, hF⟩ := hv
  have hx := B.exec
  have hb := B.bytes
  have hr := B.returns
  have hts := atoms_spec (ws := w_Model_isWordByte) B.pre
  have hts : ∀ w ∈ tb, w.before _ s = true := fun w h => hts w (List.mem_cons_of_mem _ h)
  have hown : s.vm.findClass R_Model = some m.cls := findClass_of_methodNamed B.named
  have hlocks := B.notSynchronized
  subst hsz
  have hD := hD0.self (sz := s.heap.size)
  generalize hAe : va_A [] s.heap.size = A at hD hF ⊢
  have hA : ∀ q : Nat, s.heap.size ≤ q → A q := fun q h => by rw [← hAe]; exact Or.inr h
  have hS : va_S A s.heap s.heap [] := va_S.rf
  have hP : va_P (dC, dI) cl [] s.heap := hP
  have hl := lv_entry ([.int ch]) (n := 1) (Nat.le_of_ble_eq_true rfl)
  rw [lg_entry_eq]
  generalize (lg_sl ([.int ch]) ++ List.replicate (1 - (lg_sl ([.int ch])).length) Slot.unset).toArray = ls at hl ⊢
  have hl : lv_has ls 1 [(0, .int ch)] := hl
  refine lv_iload_n hx hb d_Model_isWordByte_0 rfl (lv_at hl 0 rfl) ?_
  refine wc_i (wc := []) (wr := []) (va_runS (As := [.int ch]) (rest := []) ⟨hx, hb, hml, hown, hts⟩ (c_Model_isLetter l dC dI cB cI cL cZ cC cO ch _ ) (va_cwS 1 hts (good_S k_1121 k_1122 k_19 k_1123) rfl rfl rfl (by decide +kernel) ⟨Nat.le_of_ble_eq_true rfl, Nat.le_of_ble_eq_true rfl⟩) (wc_preS hK hP hD hS hA hF [] (by decide) rfl) rfl rfl hl.1 rfl (lv_room (Nat.le_of_ble_eq_true rfl)) d_Model_isWordByte_1 ⟨Nat.le_of_ble_eq_true rfl, Nat.le_of_ble_eq_true rfl⟩) hP hD hS hA [] [] rfl rfl (by decide) (by decide) (fun r_2 u H locs w_1 hP hD hS => ?_)
  have hP : va_P (dC, dI) cl [] H := hP
  have hD : va_D A [] := hD
  subst w_1
  refine nv_bif_ne (tgt := 20) hx hb d_Model_isWordByte_4 (by decide) (fun c_3 => ?_) (fun c_3 => ?_)
  · refine lv_iconst (v := nI 1) hx hb d_Model_isWordByte_20 (by decide) ?_
    refine lv_goto (tgt := 25) hx hb d_Model_isWordByte_21 (by decide) ?_
    exact wr_z (x := true) hx hb hr hlocks () (congrArg bI (by simp [m_wordb, c_3])) hK hP hD hS d_Model_isWordByte_25
  · refine lv_iload_n hx hb d_Model_isWordByte_7 rfl (lv_at hl 0 rfl) ?_
    refine wc_i (wc := []) (wr := []) (va_runS (As := [.int ch]) (rest := []) ⟨hx, hb, hml, hown, hts⟩ (c_Model_isDigit l dC dI cB cI cL cZ cC cO ch _ ) (va_cwS 1 hts (good_S k_1131 k_1132 k_19 k_1133) rfl rfl rfl (by decide +kernel) ⟨Nat.le_of_ble_eq_true rfl, Nat.le_of_ble_eq_true rfl⟩) (wc_preS hK hP hD hS hA hF [] (by decide) rfl) rfl rfl hl.1 rfl (lv_room (Nat.le_of_ble_eq_true rfl)) d_Model_isWordByte_8 ⟨Nat.le_of_ble_eq_true rfl, Nat.le_of_ble_eq_true rfl⟩) hP hD hS hA [] [] rfl rfl (by decide) (by decide) (fun r_5 u H locs w_4 hP hD hS => ?_)
    have hP : va_P (dC, dI) cl [] H := hP
    have hD : va_D A [] := hD
    subst w_4
    refine nv_bif_ne (tgt := 20) hx hb d_Model_isWordByte_11 (by decide) (fun c_6 => ?_) (fun c_6 => ?_)
    · refine lv_iconst (v := nI 1) hx hb d_Model_isWordByte_20 (by decide) ?_
      refine lv_goto (tgt := 25) hx hb d_Model_isWordByte_21 (by decide) ?_
      exact wr_z (x := true) hx hb hr hlocks () (congrArg bI (by simp [m_wordb, c_3, c_6])) hK hP hD hS d_Model_isWordByte_25
    · refine lv_iload_n hx hb d_Model_isWordByte_14 rfl (lv_at hl 0 rfl) ?_
      refine lv_bipush (v := nI 95) hx hb d_Model_isWordByte_15 (by decide) ?_
      refine lv_icmp_ne (tgt := 24) hx hb d_Model_isWordByte_17 (by decide) (fun c_7 => ?_) (fun c_7 => ?_)
      · refine lv_iconst (v := nI 0) hx hb d_Model_isWordByte_24 (by decide) ?_
        exact wr_z (x := false) hx hb hr hlocks () (congrArg bI (by simp [m_wordb, c_3, c_6, c_7])) hK hP hD hS d_Model_isWordByte_25
      · refine lv_iconst (v := nI 1) hx hb d_Model_isWordByte_20 (by decide) ?_
        refine lv_goto (tgt := 25) hx hb d_Model_isWordByte_21 (by decide) ?_
        exact wr_z (x := true) hx hb hr hlocks () (congrArg bI (by simp [m_wordb, c_3, c_6, c_7])) hK hP hD hS d_Model_isWordByte_25
def m_byte (v : Int64) (i : Nat) : Int32 := (v >>> ((nI (8 * i)).toInt64 &&& 63)).toInt32 &&& nI 255
def m_app (v : Int64) : Nat → (Nat → Int32) → Nat → (Nat → Int32)
  | 0, b, _ => b
  | i + 1, b, n => m_app v i (upd b n (m_byte v i)) (n + 1)
def m_put (b : Nat → Int32) (n : Nat) (v : Int64) (x : Int32) : (Nat → Int32) × Nat := if tx_ok n x = true then (m_app v x.toNatClampNeg b n, n + x.toNatClampNeg) else (b, n)
theorem d_Model_put_0 : decode b_Model_put 0 = .ok (.iload_n 3, 1) := by decide +kernel
theorem d_Model_put_1 : decode b_Model_put 1 = .ok (.iconst 1, 1) := by decide +kernel
theorem d_Model_put_2 : decode b_Model_put 2 = .ok (.if_icmp .lt 21, 3) := by decide +kernel
theorem d_Model_put_5 : decode b_Model_put 5 = .ok (.iload_n 3, 1) := by decide +kernel
theorem d_Model_put_6 : decode b_Model_put 6 = .ok (.bipush 8, 2) := by decide +kernel
theorem d_Model_put_8 : decode b_Model_put 8 = .ok (.if_icmp .gt 15, 3) := by decide +kernel
theorem d_Model_put_11 : decode b_Model_put 11 = .ok (.aload_n 0, 1) := by decide +kernel
theorem d_Model_put_12 : decode b_Model_put 12 = .ok (.getfield 158, 3) := by decide +kernel
theorem d_Model_put_15 : decode b_Model_put 15 = .ok (.iload_n 3, 1) := by decide +kernel
theorem d_Model_put_16 : decode b_Model_put 16 = .ok (.iadd, 1) := by decide +kernel
theorem d_Model_put_17 : decode b_Model_put 17 = .ok (.sipush 2000, 3) := by decide +kernel
theorem d_Model_put_20 : decode b_Model_put 20 = .ok (.if_icmp .le 5, 3) := by decide +kernel
theorem d_Model_put_23 : decode b_Model_put 23 = .ok (.iconst 0, 1) := by decide +kernel
theorem d_Model_put_24 : decode b_Model_put 24 = .ok (.ireturn, 1) := by decide +kernel
theorem d_Model_put_25 : decode b_Model_put 25 = .ok (.iload_n 3, 1) := by decide +kernel
theorem d_Model_put_26 : decode b_Model_put 26 = .ok (.iconst 1, 1) := by decide +kernel
theorem d_Model_put_27 : decode b_Model_put 27 = .ok (.isub, 1) := by decide +kernel
theorem d_Model_put_28 : decode b_Model_put 28 = .ok (.istore 4, 2) := by decide +kernel
theorem d_Model_put_30 : decode b_Model_put 30 = .ok (.iload 4, 2) := by decide +kernel
theorem d_Model_put_32 : decode b_Model_put 32 = .ok (.ifCond .lt 40, 3) := by decide +kernel
theorem d_Model_put_35 : decode b_Model_put 35 = .ok (.aload_n 0, 1) := by decide +kernel
theorem d_Model_put_36 : decode b_Model_put 36 = .ok (.getfield 13, 3) := by decide +kernel
theorem d_Model_put_39 : decode b_Model_put 39 = .ok (.aload_n 0, 1) := by decide +kernel
theorem d_Model_put_40 : decode b_Model_put 40 = .ok (.getfield 158, 3) := by decide +kernel
theorem d_Model_put_43 : decode b_Model_put 43 = .ok (.lload_n 1, 1) := by decide +kernel
theorem d_Model_put_44 : decode b_Model_put 44 = .ok (.bipush 8, 2) := by decide +kernel
theorem d_Model_put_46 : decode b_Model_put 46 = .ok (.iload 4, 2) := by decide +kernel
theorem d_Model_put_48 : decode b_Model_put 48 = .ok (.imul, 1) := by decide +kernel
theorem d_Model_put_49 : decode b_Model_put 49 = .ok (.lshr, 1) := by decide +kernel
theorem d_Model_put_50 : decode b_Model_put 50 = .ok (.l2i, 1) := by decide +kernel
theorem d_Model_put_51 : decode b_Model_put 51 = .ok (.sipush 255, 3) := by decide +kernel
theorem d_Model_put_54 : decode b_Model_put 54 = .ok (.iand, 1) := by decide +kernel
theorem d_Model_put_55 : decode b_Model_put 55 = .ok (.iastore, 1) := by decide +kernel
theorem d_Model_put_56 : decode b_Model_put 56 = .ok (.aload_n 0, 1) := by decide +kernel
theorem d_Model_put_57 : decode b_Model_put 57 = .ok (.aload_n 0, 1) := by decide +kernel
theorem d_Model_put_58 : decode b_Model_put 58 = .ok (.getfield 158, 3) := by decide +kernel
theorem d_Model_put_61 : decode b_Model_put 61 = .ok (.iconst 1, 1) := by decide +kernel
theorem d_Model_put_62 : decode b_Model_put 62 = .ok (.iadd, 1) := by decide +kernel
theorem d_Model_put_63 : decode b_Model_put 63 = .ok (.putfield 158, 3) := by decide +kernel
theorem d_Model_put_66 : decode b_Model_put 66 = .ok (.iinc 4 (-1), 3) := by decide +kernel
theorem d_Model_put_69 : decode b_Model_put 69 = .ok (.goto (-39), 3) := by decide +kernel
theorem d_Model_put_72 : decode b_Model_put 72 = .ok (.iconst 1, 1) := by decide +kernel
theorem d_Model_put_73 : decode b_Model_put 73 = .ok (.ireturn, 1) := by decide +kernel
set_option maxHeartbeats 4000000 in
set_option maxRecDepth 100000 in
theorem lp_Model_put {p : Program} {l : Launch} {e : Env} {s : State} {m : MethodId} {args : Array Value} {below : List Frame} {meth : Method} {c : Code} {Q : State → Prop} {A : Nat → Prop} {dC : Nat → ClassId} {dI : Nat → Nat → Nat} {cB cI cL cZ cC cO : ClassId} {qm q_text : Nat}{f0 f3 f4 f5 f6 f7 f8 f9 f10 f11 f12 f13 f14 f15 f16 f17 f18 f19 f20 f21 f22 f23 f24 f25 f26 f27 f28 f29 f30 f31 f32 f33 f34 f35 f36 f37 f38 f39 f40 f41 f42 f43 f44 f45 f46 f47 f48 f49 f50 f51 f52 f53 f54 f55 f56 f57 f58 f59 f60 f61 f62 f63 f64 f65 f66 f67 f68 f69 f70 : Value} {v : Int64} {x : Int32} {bF_ : Nat → Int32} {nF_ : Nat} (hnF : nF_ ≤ 2000) (hx : p.tables.exec = Jvm.exec) (hb : c.code = b_Model_put) (hml : c.maxLocals = 5) (hown : s.vm.findClass R_Model = some m.cls) (hts : ∀ w ∈ tb, w.before args s = true) (hA : ∀ q, s.heap.size ≤ q → A q) (hF : stF A s) (hK : va_K (dC, dI) cl [(cB, .byte), (cI, .int), (cL, .long), (cZ, .boolean), (cC, .char), (cO, .object "java/lang/Object")] s)
    (kx : ∀  (H : Heap) (locs : List Loc) (ls : Array Slot), va_P (dC, dI) cl [(qm, .inr (13, [f0, .ref q_text, .int (nI nF_), f3, f4, f5, f6, f7, f8, f9, f10, f11, f12, f13, f14, f15, f16, f17, f18, f19, f20, f21, f22, f23, f24, f25, f26, f27, f28, f29, f30, f31, f32, f33, f34, f35, f36, f37, f38, f39, f40, f41, f42, f43, f44, f45, f46, f47, f48, f49, f50, f51, f52, f53, f54, f55, f56, f57, f58, f59, f60, f61, f62, f63, f64, f65, f66, f67, f68, f69, f70])), (q_text, .inl (cI, 2000, .inl bF_))] H → va_D A [(qm, .inr (13, [f0, .ref q_text, .int (nI nF_), f3, f4, f5, f6, f7, f8, f9, f10, f11, f12, f13, f14, f15, f16, f17, f18, f19, f20, f21, f22, f23, f24, f25, f26, f27, f28, f29, f30, f31, f32, f33, f34, f35, f36, f37, f38, f39, f40, f41, f42, f43, f44, f45, f46, f47, f48, f49, f50, f51, f52, f53, f54, f55, f56, f57, f58, f59, f60, f61, f62, f63, f64, f65, f66, f67, f68, f69, f70])), (q_text, .inl (cI, 2000, .inl bF_))] → va_S A s.heap H locs → lv_has ls 5 [(0, .ref qm), (1, .long v), (3, .int x)] → W p l e (headSpec w_Model_put { frames := 0, cells := 0, slots := 0, locals := 0 }).room s m args below meth c H locs 0 0 Q (F0 m 72 ls [])) :
    ∀ (k : Nat) (i : Nat) (y : Int32) (b1 : Nat → Int32) (n1 : Nat) (H : Heap) (locs : List Loc) (ls : Array Slot), i < k → i ≤ 8 → y = nI i + (-1) → m_app v i b1 n1 = bF_ → n1 + i = nF_ → va_P (dC, dI) cl [(qm, .inr (13, [f0, .ref q_text, .int (nI n1), f3, f4, f5, f6, f7, f8, f9, f10, f11, f12, f13, f14, f15, f16, f17, f18, f19, f20, f21, f22, f23, f24, f25, f26, f27, f28, f29, f30, f31, f32, f33, f34, f35, f36, f37, f38, f39, f40, f41, f42, f43, f44, f45, f46, f47, f48, f49, f50, f51, f52, f53, f54, f55, f56, f57, f58, f59, f60, f61, f62, f63, f64, f65, f66, f67, f68, f69, f70])), (q_text, .inl (cI, 2000, .inl b1))] H → va_D A [(qm, .inr (13, [f0, .ref q_text, .int (nI n1), f3, f4, f5, f6, f7, f8, f9, f10, f11, f12, f13, f14, f15, f16, f17, f18, f19, f20, f21, f22, f23, f24, f25, f26, f27, f28, f29, f30, f31, f32, f33, f34, f35, f36, f37, f38, f39, f40, f41, f42, f43, f44, f45, f46, f47, f48, f49, f50, f51, f52, f53, f54, f55, f56, f57, f58, f59, f60, f61, f62, f63, f64, f65, f66, f67, f68, f69, f70])), (q_text, .inl (cI, 2000, .inl b1))] → va_S A s.heap H locs → lv_has ls 5 [(4, .int y), (0, .ref qm), (1, .long v), (3, .int x)] → W p l e (headSpec w_Model_put { frames := 0, cells := 0, slots := 0, locals := 0 }).room s m args below meth c H locs 0 0 Q (F0 m 30 ls []) := by
  intro k
  induction k with
  | zero =>
    intro i y b1 n1 H locs ls hk hi hy hF1 hN hP hD hS hl
    exfalso; omega
  | succ k ih =>
    intro i y b1 n1 H locs ls hk hi hy hF1 hN hP hD hS hl
    refine lv_iload hx hb d_Model_put_30 (lv_at hl 0 rfl) ?_
    refine lv_if_lt (tgt := 72) hx hb d_Model_put_32 (by decide) (fun c_1 => ?_) (fun c_1 => ?_)
    · have hi0 : i = 0 := tx_m1 hy hi c_1
      subst hi0
      have hb1 : b1 = bF_ := hF1
      have hn1 : n1 = nF_ := hN
      subst hb1 hn1
      exact kx H locs ls hP hD hS (lv_sub hl [1, 2, 3] rfl)
    · obtain ⟨i1, rfl, rfl⟩ := tx_m2 hy c_1
      refine lv_aload_n hx hb d_Model_put_35 rfl (lv_at hl 1 rfl) ?_
      refine va_get (D := (dC, dI)) (ci := 13) (v := .ref q_text) (C := R_Model) (T := F_Model) (N := 71) hx hb hts i_Model hown hK hP 0 rfl rfl 1 (by decide) (hts _ k_875) (fun _ h9 => h9) rfl d_Model_put_36 ?_
      refine lv_aload_n hx hb d_Model_put_39 rfl (lv_at hl 1 rfl) ?_
      refine va_get (D := (dC, dI)) (ci := 13) (v := .int (nI n1)) (C := R_Model) (T := F_Model) (N := 71) hx hb hts i_Model hown hK hP 0 rfl rfl 2 (by decide) (hts _ k_876) (fun _ h9 => h9) rfl d_Model_put_40 ?_
      refine lv_lload_n hx hb d_Model_put_43 rfl (lv_at hl 2 rfl) ?_
      refine lv_bipush (v := nI 8) hx hb d_Model_put_44 (by decide) ?_
      refine lv_iload hx hb d_Model_put_46 (lv_at hl 0 rfl) ?_
      refine nv_imul hx hb d_Model_put_48 ?_
      refine lv_lshr (v := v >>> ((nI (8 * i1)).toInt64 &&& 63)) hx hb d_Model_put_49 rfl ?_
      refine lv_l2i (v := (v >>> ((nI (8 * i1)).toInt64 &&& 63)).toInt32) hx hb d_Model_put_50 rfl ?_
      refine lv_sipush (v := nI 255) hx hb d_Model_put_51 (by decide) ?_
      refine lv_iand hx hb d_Model_put_54 ?_
      refine nv_iast hx hb hK hP hD hS 1 1 rfl rfl (by omega) (by decide) d_Model_put_55 (fun H locs hP hD hS => ?_)
      have hP : va_P (dC, dI) cl [(qm, .inr (13, [f0, .ref q_text, .int (nI n1), f3, f4, f5, f6, f7, f8, f9, f10, f11, f12, f13, f14, f15, f16, f17, f18, f19, f20, f21, f22, f23, f24, f25, f26, f27, f28, f29, f30, f31, f32, f33, f34, f35, f36, f37, f38, f39, f40, f41, f42, f43, f44, f45, f46, f47, f48, f49, f50, f51, f52, f53, f54, f55, f56, f57, f58, f59, f60, f61, f62, f63, f64, f65, f66, f67, f68, f69, f70])), (q_text, .inl (cI, 2000, .inl (upd b1 n1 (((v >>> ((nI (8 * i1)).toInt64 &&& 63)).toInt32) &&& (nI 255)))))] H := hP
      have hD : va_D A [(qm, .inr (13, [f0, .ref q_text, .int (nI n1), f3, f4, f5, f6, f7, f8, f9, f10, f11, f12, f13, f14, f15, f16, f17, f18, f19, f20, f21, f22, f23, f24, f25, f26, f27, f28, f29, f30, f31, f32, f33, f34, f35, f36, f37, f38, f39, f40, f41, f42, f43, f44, f45, f46, f47, f48, f49, f50, f51, f52, f53, f54, f55, f56, f57, f58, f59, f60, f61, f62, f63, f64, f65, f66, f67, f68, f69, f70])), (q_text, .inl (cI, 2000, .inl (upd b1 n1 (((v >>> ((nI (8 * i1)).toInt64 &&& 63)).toInt32) &&& (nI 255)))))] := hD
      refine lv_aload_n hx hb d_Model_put_56 rfl (lv_at hl 1 rfl) ?_
      refine lv_aload_n hx hb d_Model_put_57 rfl (lv_at hl 1 rfl) ?_
      refine va_get (D := (dC, dI)) (ci := 13) (v := .int (nI n1)) (C := R_Model) (T := F_Model) (N := 71) hx hb hts i_Model hown hK hP 0 rfl rfl 2 (by decide) (hts _ k_876) (fun _ h9 => h9) rfl d_Model_put_58 ?_
      refine lv_iconst (v := nI 1) hx hb d_Model_put_61 (by decide) ?_
      refine nv_iadd hx hb d_Model_put_62 ?_
      refine va_put (D := (dC, dI)) (ci := 13) (v := .int (nI (n1 + 1))) (ty := .int) (C := R_Model) (T := F_Model) (N := 71) hx hb hts i_Model t_Model t_Model_ok n_Model hown hK hP hD hS 0 rfl rfl 2 (by decide) (hts _ k_876) (fun _ h9 => h9) rfl (by decide +kernel) rfl rfl (Nat.le_of_ble_eq_true rfl) d_Model_put_63 (fun H locs hP hD hS => ?_)
      have hP : va_P (dC, dI) cl [(qm, .inr (13, [f0, .ref q_text, .int (nI (n1 + 1)), f3, f4, f5, f6, f7, f8, f9, f10, f11, f12, f13, f14, f15, f16, f17, f18, f19, f20, f21, f22, f23, f24, f25, f26, f27, f28, f29, f30, f31, f32, f33, f34, f35, f36, f37, f38, f39, f40, f41, f42, f43, f44, f45, f46, f47, f48, f49, f50, f51, f52, f53, f54, f55, f56, f57, f58, f59, f60, f61, f62, f63, f64, f65, f66, f67, f68, f69, f70])), (q_text, .inl (cI, 2000, .inl (upd b1 n1 (((v >>> ((nI (8 * i1)).toInt64 &&& 63)).toInt32) &&& (nI 255)))))] H := hP
      have hD : va_D A [(qm, .inr (13, [f0, .ref q_text, .int (nI (n1 + 1)), f3, f4, f5, f6, f7, f8, f9, f10, f11, f12, f13, f14, f15, f16, f17, f18, f19, f20, f21, f22, f23, f24, f25, f26, f27, f28, f29, f30, f31, f32, f33, f34, f35, f36, f37, f38, f39, f40, f41, f42, f43, f44, f45, f46, f47, f48, f49, f50, f51, f52, f53, f54, f55, f56, f57, f58, f59, f60, f61, f62, f63, f64, f65, f66, f67, f68, f69, f70])), (q_text, .inl (cI, 2000, .inl (upd b1 n1 (((v >>> ((nI (8 * i1)).toInt64 &&& 63)).toInt32) &&& (nI 255)))))] := hD
      refine lv_iinc (v := nI i1 + (-1)) (lv' := [(4, .int (nI i1 + (-1))), (0, .ref qm), (1, .long v), (3, .int x)]) hx hb d_Model_put_66 hl (k := 0) rfl rfl (by decide) rfl (fun ls hl => ?_)
      refine lv_goto (tgt := 30) hx hb d_Model_put_69 (by decide) ?_
      exact ih i1 (nI i1 + (-1)) (upd b1 n1 (m_byte v i1)) (n1 + 1) H locs ls (by omega) (by omega) rfl hF1 (by omega) hP hD hS (lv_sub hl [0, 1, 2, 3] rfl)
set_option maxHeartbeats 4000000 in
set_option maxRecDepth 100000 in
/-- put(v, x) -/
theorem c_Model_put (l : Launch) (dC : Nat → ClassId) (dI : Nat → Nat → Nat) (cB cI cL cZ cC cO : ClassId) {qm q_text : Nat}{f0 f3 f4 f5 f6 f7 f8 f9 f10 f11 f12 f13 f14 f15 f16 f17 f18 f19 f20 f21 f22 f23 f24 f25 f26 f27 f28 f29 f30 f31 f32 f33 f34 f35 f36 f37 f38 f39 f40 f41 f42 f43 f44 f45 f46 f47 f48 f49 f50 f51 f52 f53 f54 f55 f56 f57 f58 f59 f60 f61 f62 f63 f64 f65 f66 f67 f68 f69 f70 : Value} (fb : Nat → Int32) (n : Nat) (v : Int64) (x : Int32) (sz : Nat) (hn : n ≤ 2000) : Met l y_Model_put w_Model_put ({ frames := 0, cells := 0, slots := 0, locals := 0 }) (va_Pc [.ref qm, .long v, .int x] (wB (dC, dI) cl [(cB, .byte), (cI, .int), (cL, .long), (cZ, .boolean), (cC, .char), (cO, .object "java/lang/Object")] sz [(qm, .inr (13, [f0, .ref q_text, .int (nI n), f3, f4, f5, f6, f7, f8, f9, f10, f11, f12, f13, f14, f15, f16, f17, f18, f19, f20, f21, f22, f23, f24, f25, f26, f27, f28, f29, f30, f31, f32, f33, f34, f35, f36, f37, f38, f39, f40, f41, f42, f43, f44, f45, f46, f47, f48, f49, f50, f51, f52, f53, f54, f55, f56, f57, f58, f59, f60, f61, f62, f63, f64, f65, f66, f67, f68, f69, f70])), (q_text, .inl (cI, 2000, .inl fb))])) (va_Qi (fun (r : Int32) (u : (Nat → Int32) × Nat) => r = bI (tx_ok n x) ∧ u = m_put fb n v x) (fun u t => wA (dC, dI) cl [(cB, .byte), (cI, .int), (cL, .long), (cZ, .boolean), (cC, .char), (cO, .object "java/lang/Object")] (va_A [(qm, .inr (13, [f0, .ref q_text, .int (nI n), f3, f4, f5, f6, f7, f8, f9, f10, f11, f12, f13, f14, f15, f16, f17, f18, f19, f20, f21, f22, f23, f24, f25, f26, f27, f28, f29, f30, f31, f32, f33, f34, f35, f36, f37, f38, f39, f40, f41, f42, f43, f44, f45, f46, f47, f48, f49, f50, f51, f52, f53, f54, f55, f56, f57, f58, f59, f60, f61, f62, f63, f64, f65, f66, f67, f68, f69, f70])), (q_text, .inl (cI, 2000, .inl fb))] sz) [(qm, .inr (13, [f0, .ref q_text, .int (nI u.2), f3, f4, f5, f6, f7, f8, f9, f10, f11, f12, f13, f14, f15, f16, f17, f18, f19, f20, f21, f22, f23, f24, f25, f26, f27, f28, f29, f30, f31, f32, f33, f34, f35, f36, f37, f38, f39, f40, f41, f42, f43, f44, f45, f46, f47, f48, f49, f50, f51, f52, f53, f54, f55, f56, f57, f58, f59, f60, f61, f62, f63, f64, f65, f66, f67, f68, f69, f70])), (q_text, .inl (cI, 2000, .inl u.1))] t) (va_A [(qm, .inr (13, [f0, .ref q_text, .int (nI n), f3, f4, f5, f6, f7, f8, f9, f10, f11, f12, f13, f14, f15, f16, f17, f18, f19, f20, f21, f22, f23, f24, f25, f26, f27, f28, f29, f30, f31, f32, f33, f34, f35, f36, f37, f38, f39, f40, f41, f42, f43, f44, f45, f46, f47, f48, f49, f50, f51, f52, f53, f54, f55, f56, f57, f58, f59, f60, f61, f62, f63, f64, f65, f66, f67, f68, f69, f70])), (q_text, .inl (cI, 2000, .inl fb))] sz)) 0 0 (va_A [(qm, .inr (13, [f0, .ref q_text, .int (nI n), f3, f4, f5, f6, f7, f8, f9, f10, f11, f12, f13, f14, f15, f16, f17, f18, f19, f20, f21, f22, f23, f24, f25, f26, f27, f28, f29, f30, f31, f32, f33, f34, f35, f36, f37, f38, f39, f40, f41, f42, f43, f44, f45, f46, f47, f48, f49, f50, f51, f52, f53, f54, f55, f56, f57, f58, f59, f60, f61, f62, f63, f64, f65, f66, f67, f68, f69, f70])), (q_text, .inl (cI, 2000, .inl fb))] sz) := by
  refine Met.ofW (cc := b_Model_put) (maxL := 5) (ret := (some ClassFile.FieldType.boolean)) (by decide) rfl ?_
  intro p e s m args below meth c s₁ B hml hv
  obtain ⟨rfl, hsz, hP, hK, hD0, hF⟩ := hv
  have hx := B.exec
  have hb := B.bytes
  have hr := B.returns
  have hts := atoms_spec (ws := w_Model_put) B.pre
  have hts : ∀ w ∈ tb, w.before _ s = true := fun w h => hts w (List.mem_cons_of_mem _ h)
  have hown : s.vm.findClass R_Model = some m.cls := findClass_of_methodNamed B.named
  have hlocks := B.notSynchronized
  subst hsz
  have hD := hD0.self (sz := s.heap.size)
  generalize hAe : va_A [(qm, .inr (13, [f0, .ref q_text, .int (nI n), f3, f4, f5, f6, f7, f8, f9, f10, f11, f12, f13, f14, f15, f16, f17, f18, f19, f20, f21, f22, f23, f24, f25, f26, f27, f28, f29, f30, f31, f32, f33, f34, f35, f36, f37, f38, f39, f40, f41, f42, f43, f44, f45, f46, f47, f48, f49, f50, f51, f52, f53, f54, f55, f56, f57, f58, f59, f60, f61, f62, f63, f64, f65, f66, f67, f68, f69, f70])), (q_text, .inl (cI, 2000, .inl fb))] s.heap.size = A at hD hF ⊢
  have hA : ∀ q : Nat, s.heap.size ≤ q → A q := fun q h => by rw [← hAe]; exact Or.inr h
  have hS : va_S A s.heap s.heap [] := va_S.rf
  have hP : va_P (dC, dI) cl [(qm, .inr (13, [f0, .ref q_text, .int (nI n), f3, f4, f5, f6, f7, f8, f9, f10, f11, f12, f13, f14, f15, f16, f17, f18, f19, f20, f21, f22, f23, f24, f25, f26, f27, f28, f29, f30, f31, f32, f33, f34, f35, f36, f37, f38, f39, f40, f41, f42, f43, f44, f45, f46, f47, f48, f49, f50, f51, f52, f53, f54, f55, f56, f57, f58, f59, f60, f61, f62, f63, f64, f65, f66, f67, f68, f69, f70])), (q_text, .inl (cI, 2000, .inl fb))] s.heap := hP
  have hl := lv_entry ([.ref qm, .long v, .int x]) (n := 5) (Nat.le_of_ble_eq_true rfl)
  rw [lg_entry_eq]
  generalize (lg_sl ([.ref qm, .long v, .int x]) ++ List.replicate (5 - (lg_sl ([.ref qm, .long v, .int x])).length) Slot.unset).toArray = ls at hl ⊢
  have hl : lv_has ls 5 [(0, .ref qm), (1, .long v), (3, .int x)] := hl
  refine lv_iload_n hx hb d_Model_put_0 rfl (lv_at hl 2 rfl) ?_
  refine lv_iconst (v := nI 1) hx hb d_Model_put_1 (by decide) ?_
  refine lv_icmp_lt (tgt := 23) hx hb d_Model_put_2 (by decide) (fun c_1 => ?_) (fun c_1 => ?_)
  · refine lv_iconst (v := nI 0) hx hb d_Model_put_23 (by decide) ?_
    have hok : tx_ok n x = false := by simp [tx_ok, c_1]
    exact wr_z (x := false) hx hb hr hlocks (fb, n) ⟨congrArg bI hok.symm, by unfold m_put; rw [if_neg (by rw [hok]; decide)]⟩ hK hP hD hS d_Model_put_24
  · refine lv_iload_n hx hb d_Model_put_5 rfl (lv_at hl 2 rfl) ?_
    refine lv_bipush (v := nI 8) hx hb d_Model_put_6 (by decide) ?_
    refine lv_icmp_gt (tgt := 23) hx hb d_Model_put_8 (by decide) (fun c_2 => ?_) (fun c_2 => ?_)
    · refine lv_iconst (v := nI 0) hx hb d_Model_put_23 (by decide) ?_
      have hok : tx_ok n x = false := by simp [tx_ok, c_1, c_2]
      exact wr_z (x := false) hx hb hr hlocks (fb, n) ⟨congrArg bI hok.symm, by unfold m_put; rw [if_neg (by rw [hok]; decide)]⟩ hK hP hD hS d_Model_put_24
    · refine lv_aload_n hx hb d_Model_put_11 rfl (lv_at hl 0 rfl) ?_
      refine va_get (D := (dC, dI)) (ci := 13) (v := .int (nI n)) (C := R_Model) (T := F_Model) (N := 71) hx hb hts i_Model hown hK hP 0 rfl rfl 2 (by decide) (hts _ k_876) (fun _ h9 => h9) rfl d_Model_put_12 ?_
      refine lv_iload_n hx hb d_Model_put_15 rfl (lv_at hl 2 rfl) ?_
      refine lv_iadd hx hb d_Model_put_16 ?_
      refine lv_sipush (v := nI 2000) hx hb d_Model_put_17 (by decide) ?_
      refine lv_icmp_le (tgt := 25) hx hb d_Model_put_20 (by decide) (fun c_3 => ?_) (fun c_3 => ?_)
      · have hok : tx_ok n x = true := by simp [tx_ok, c_1, c_2, c_3]
        obtain ⟨j, hj1, hj2, rfl⟩ := tx_small c_1 c_2
        have hj3 : n + j ≤ 2000 := by have q := c_3; rw [nI_add] at q; exact (nI_leI (by omega) (by omega)).mp q
        refine lv_iload_n hx hb d_Model_put_25 rfl (lv_at hl 2 rfl) ?_
        refine lv_iconst (v := nI 1) hx hb d_Model_put_26 (by decide) ?_
        refine nv_isub hx hb (by omega) d_Model_put_27 ?_
        refine lv_istore (lv' := [(4, .int (nI (j - 1))), (0, .ref qm), (1, .long v), (3, .int (nI j))]) hx hb d_Model_put_28 hl (by decide) rfl (fun ls hl => ?_)
        refine lp_Model_put (x := nI j) (bF_ := m_app v j fb n) (nF_ := n + j) hj3 hx hb hml hown hts hA hF hK (fun H locs ls hP hD hS hl => ?_) (j + 1) j _ fb n _ _ ls (by omega) hj2 (by rw [← pk_m1 (j - 1), show j - 1 + 1 = j by omega]) rfl rfl hP hD hS (lv_sub hl [0, 1, 2, 3] rfl)
        refine lv_iconst (v := nI 1) hx hb d_Model_put_72 (by decide) ?_
        exact wr_z (x := true) hx hb hr hlocks (m_app v j fb n, n + j) ⟨congrArg bI hok.symm, by unfold m_put; rw [if_pos hok, nI_clamp (by omega)]⟩ hK hP hD hS d_Model_put_73
      · refine lv_iconst (v := nI 0) hx hb d_Model_put_23 (by decide) ?_
        have hok : tx_ok n x = false := by simp [tx_ok, c_1, c_2, c_3]
        exact wr_z (x := false) hx hb hr hlocks (fb, n) ⟨congrArg bI hok.symm, by unfold m_put; rw [if_neg (by rw [hok]; decide)]⟩ hK hP hD hS d_Model_put_24
theorem d_Model_token_0 : decode b_Model_token 0 = .ok (.aload_n 0, 1) := by decide +kernel
theorem d_Model_token_1 : decode b_Model_token 1 = .ok (.getfield 21, 3) := by decide +kernel
theorem d_Model_token_4 : decode b_Model_token 4 = .ok (.aload_n 0, 1) := by decide +kernel
theorem d_Model_token_5 : decode b_Model_token 5 = .ok (.getfield 171, 3) := by decide +kernel
theorem d_Model_token_8 : decode b_Model_token 8 = .ok (.iload_n 1, 1) := by decide +kernel
theorem d_Model_token_9 : decode b_Model_token 9 = .ok (.iastore, 1) := by decide +kernel
theorem d_Model_token_10 : decode b_Model_token 10 = .ok (.aload_n 0, 1) := by decide +kernel
theorem d_Model_token_11 : decode b_Model_token 11 = .ok (.getfield 24, 3) := by decide +kernel
theorem d_Model_token_14 : decode b_Model_token 14 = .ok (.aload_n 0, 1) := by decide +kernel
theorem d_Model_token_15 : decode b_Model_token 15 = .ok (.getfield 171, 3) := by decide +kernel
theorem d_Model_token_18 : decode b_Model_token 18 = .ok (.iload_n 2, 1) := by decide +kernel
theorem d_Model_token_19 : decode b_Model_token 19 = .ok (.iastore, 1) := by decide +kernel
theorem d_Model_token_20 : decode b_Model_token 20 = .ok (.aload_n 0, 1) := by decide +kernel
theorem d_Model_token_21 : decode b_Model_token 21 = .ok (.getfield 27, 3) := by decide +kernel
theorem d_Model_token_24 : decode b_Model_token 24 = .ok (.aload_n 0, 1) := by decide +kernel
theorem d_Model_token_25 : decode b_Model_token 25 = .ok (.getfield 171, 3) := by decide +kernel
theorem d_Model_token_28 : decode b_Model_token 28 = .ok (.iload_n 3, 1) := by decide +kernel
theorem d_Model_token_29 : decode b_Model_token 29 = .ok (.iload_n 2, 1) := by decide +kernel
theorem d_Model_token_30 : decode b_Model_token 30 = .ok (.isub, 1) := by decide +kernel
theorem d_Model_token_31 : decode b_Model_token 31 = .ok (.iastore, 1) := by decide +kernel
theorem d_Model_token_32 : decode b_Model_token 32 = .ok (.aload_n 0, 1) := by decide +kernel
theorem d_Model_token_33 : decode b_Model_token 33 = .ok (.getfield 30, 3) := by decide +kernel
theorem d_Model_token_36 : decode b_Model_token 36 = .ok (.aload_n 0, 1) := by decide +kernel
theorem d_Model_token_37 : decode b_Model_token 37 = .ok (.getfield 171, 3) := by decide +kernel
theorem d_Model_token_40 : decode b_Model_token 40 = .ok (.iload 4, 2) := by decide +kernel
theorem d_Model_token_42 : decode b_Model_token 42 = .ok (.iastore, 1) := by decide +kernel
theorem d_Model_token_43 : decode b_Model_token 43 = .ok (.aload_n 0, 1) := by decide +kernel
theorem d_Model_token_44 : decode b_Model_token 44 = .ok (.aload_n 0, 1) := by decide +kernel
theorem d_Model_token_45 : decode b_Model_token 45 = .ok (.getfield 171, 3) := by decide +kernel
theorem d_Model_token_48 : decode b_Model_token 48 = .ok (.iconst 1, 1) := by decide +kernel
theorem d_Model_token_49 : decode b_Model_token 49 = .ok (.iadd, 1) := by decide +kernel
theorem d_Model_token_50 : decode b_Model_token 50 = .ok (.putfield 171, 3) := by decide +kernel
theorem d_Model_token_53 : decode b_Model_token 53 = .ok (.return_, 1) := by decide +kernel
set_option maxHeartbeats 4000000 in
set_option maxRecDepth 100000 in
/-- token(k, i, j, x) -/
theorem c_Model_token (l : Launch) (dC : Nat → ClassId) (dI : Nat → Nat → Nat) (cB cI cL cZ cC cO : ClassId) {qm q_tokKind q_tokAt q_tokSize q_tokValue : Nat}{f0 f1 f2 f3 f4 f5 f6 f12 f13 f14 f15 f16 f17 f18 f19 f20 f21 f22 f23 f24 f25 f26 f27 f28 f29 f30 f31 f32 f33 f34 f35 f36 f37 f38 f39 f40 f41 f42 f43 f44 f45 f46 f47 f48 f49 f50 f51 f52 f53 f54 f55 f56 f57 f58 f59 f60 f61 f62 f63 f64 f65 f66 f67 f68 f69 f70 : Value} (tk ta ts : Nat → Nat) (tv : Nat → Int32) (tn k i j : Nat) (x : Int32) (sz : Nat) (ht : tn < 1002) (hij : i ≤ j) : Met l y_Model_token w_Model_token ({ frames := 0, cells := 0, slots := 0, locals := 0 }) (va_Pc [.ref qm, .int (nI k), .int (nI i), .int (nI j), .int x] (wB (dC, dI) cl [(cB, .byte), (cI, .int), (cL, .long), (cZ, .boolean), (cC, .char), (cO, .object "java/lang/Object")] sz [(qm, .inr (13, [f0, f1, f2, f3, f4, f5, f6, .ref q_tokKind, .ref q_tokAt, .ref q_tokSize, .ref q_tokValue, .int (nI tn), f12, f13, f14, f15, f16, f17, f18, f19, f20, f21, f22, f23, f24, f25, f26, f27, f28, f29, f30, f31, f32, f33, f34, f35, f36, f37, f38, f39, f40, f41, f42, f43, f44, f45, f46, f47, f48, f49, f50, f51, f52, f53, f54, f55, f56, f57, f58, f59, f60, f61, f62, f63, f64, f65, f66, f67, f68, f69, f70])), (q_tokKind, .inl (cI, 1002, .inl (nF tk))), (q_tokAt, .inl (cI, 1002, .inl (nF ta))), (q_tokSize, .inl (cI, 1002, .inl (nF ts))), (q_tokValue, .inl (cI, 1002, .inl tv))])) (va_Qv (fun (u : Unit) => True) (fun _ t => wA (dC, dI) cl [(cB, .byte), (cI, .int), (cL, .long), (cZ, .boolean), (cC, .char), (cO, .object "java/lang/Object")] (va_A [(qm, .inr (13, [f0, f1, f2, f3, f4, f5, f6, .ref q_tokKind, .ref q_tokAt, .ref q_tokSize, .ref q_tokValue, .int (nI tn), f12, f13, f14, f15, f16, f17, f18, f19, f20, f21, f22, f23, f24, f25, f26, f27, f28, f29, f30, f31, f32, f33, f34, f35, f36, f37, f38, f39, f40, f41, f42, f43, f44, f45, f46, f47, f48, f49, f50, f51, f52, f53, f54, f55, f56, f57, f58, f59, f60, f61, f62, f63, f64, f65, f66, f67, f68, f69, f70])), (q_tokKind, .inl (cI, 1002, .inl (nF tk))), (q_tokAt, .inl (cI, 1002, .inl (nF ta))), (q_tokSize, .inl (cI, 1002, .inl (nF ts))), (q_tokValue, .inl (cI, 1002, .inl tv))] sz) [(qm, .inr (13, [f0, f1, f2, f3, f4, f5, f6, .ref q_tokKind, .ref q_tokAt, .ref q_tokSize, .ref q_tokValue, .int (nI (tn + 1)), f12, f13, f14, f15, f16, f17, f18, f19, f20, f21, f22, f23, f24, f25, f26, f27, f28, f29, f30, f31, f32, f33, f34, f35, f36, f37, f38, f39, f40, f41, f42, f43, f44, f45, f46, f47, f48, f49, f50, f51, f52, f53, f54, f55, f56, f57, f58, f59, f60, f61, f62, f63, f64, f65, f66, f67, f68, f69, f70])), (q_tokKind, .inl (cI, 1002, .inl (nF (va_up tk tn k)))), (q_tokAt, .inl (cI, 1002, .inl (nF (va_up ta tn i)))), (q_tokSize, .inl (cI, 1002, .inl (nF (va_up ts tn (j - i))))), (q_tokValue, .inl (cI, 1002, .inl (upd tv tn x)))] t) (va_A [(qm, .inr (13, [f0, f1, f2, f3, f4, f5, f6, .ref q_tokKind, .ref q_tokAt, .ref q_tokSize, .ref q_tokValue, .int (nI tn), f12, f13, f14, f15, f16, f17, f18, f19, f20, f21, f22, f23, f24, f25, f26, f27, f28, f29, f30, f31, f32, f33, f34, f35, f36, f37, f38, f39, f40, f41, f42, f43, f44, f45, f46, f47, f48, f49, f50, f51, f52, f53, f54, f55, f56, f57, f58, f59, f60, f61, f62, f63, f64, f65, f66, f67, f68, f69, f70])), (q_tokKind, .inl (cI, 1002, .inl (nF tk))), (q_tokAt, .inl (cI, 1002, .inl (nF ta))), (q_tokSize, .inl (cI, 1002, .inl (nF ts))), (q_tokValue, .inl (cI, 1002, .inl tv))] sz)) 0 0 (va_A [(qm, .inr (13, [f0, f1, f2, f3, f4, f5, f6, .ref q_tokKind, .ref q_tokAt, .ref q_tokSize, .ref q_tokValue, .int (nI tn), f12, f13, f14, f15, f16, f17, f18, f19, f20, f21, f22, f23, f24, f25, f26, f27, f28, f29, f30, f31, f32, f33, f34, f35, f36, f37, f38, f39, f40, f41, f42, f43, f44, f45, f46, f47, f48, f49, f50, f51, f52, f53, f54, f55, f56, f57, f58, f59, f60, f61, f62, f63, f64, f65, f66, f67, f68, f69, f70])), (q_tokKind, .inl (cI, 1002, .inl (nF tk))), (q_tokAt, .inl (cI, 1002, .inl (nF ta))), (q_tokSize, .inl (cI, 1002, .inl (nF ts))), (q_tokValue, .inl (cI, 1002, .inl tv))] sz) := by
  refine Met.ofW (cc := b_Model_token) (maxL := 5) (ret := none) (by decide) rfl ?_
  intro p e s m args below meth c s₁ B hml hv
  obtain ⟨rfl, hsz, hP, hK, hD0, hF⟩ := hv
  have hx := B.exec
  have hb := B.bytes
  have hr := B.returns
  have hts := atoms_spec (ws := w_Model_token) B.pre
  have hts : ∀ w ∈ tb, w.before _ s = true := fun w h => hts w (List.mem_cons_of_mem _ h)
  have hown : s.vm.findClass R_Model = some m.cls := findClass_of_methodNamed B.named
  have hlocks := B.notSynchronized
  subst hsz
  have hD := hD0.self (sz := s.heap.size)
  generalize hAe : va_A [(qm, .inr (13, [f0, f1, f2, f3, f4, f5, f6, .ref q_tokKind, .ref q_tokAt, .ref q_tokSize, .ref q_tokValue, .int (nI tn), f12, f13, f14, f15, f16, f17, f18, f19, f20, f21, f22, f23, f24, f25, f26, f27, f28, f29, f30, f31, f32, f33, f34, f35, f36, f37, f38, f39, f40, f41, f42, f43, f44, f45, f46, f47, f48, f49, f50, f51, f52, f53, f54, f55, f56, f57, f58, f59, f60, f61, f62, f63, f64, f65, f66, f67, f68, f69, f70])), (q_tokKind, .inl (cI, 1002, .inl (nF tk))), (q_tokAt, .inl (cI, 1002, .inl (nF ta))), (q_tokSize, .inl (cI, 1002, .inl (nF ts))), (q_tokValue, .inl (cI, 1002, .inl tv))] s.heap.size = A at hD hF ⊢
  have hA : ∀ q : Nat, s.heap.size ≤ q → A q := fun q h => by rw [← hAe]; exact Or.inr h
  have hS : va_S A s.heap s.heap [] := va_S.rf
  have hP : va_P (dC, dI) cl [(qm, .inr (13, [f0, f1, f2, f3, f4, f5, f6, .ref q_tokKind, .ref q_tokAt, .ref q_tokSize, .ref q_tokValue, .int (nI tn), f12, f13, f14, f15, f16, f17, f18, f19, f20, f21, f22, f23, f24, f25, f26, f27, f28, f29, f30, f31, f32, f33, f34, f35, f36, f37, f38, f39, f40, f41, f42, f43, f44, f45, f46, f47, f48, f49, f50, f51, f52, f53, f54, f55, f56, f57, f58, f59, f60, f61, f62, f63, f64, f65, f66, f67, f68, f69, f70])), (q_tokKind, .inl (cI, 1002, .inl (nF tk))), (q_tokAt, .inl (cI, 1002, .inl (nF ta))), (q_tokSize, .inl (cI, 1002, .inl (nF ts))), (q_tokValue, .inl (cI, 1002, .inl tv))] s.heap := hP
  have hl := lv_entry ([.ref qm, .int (nI k), .int (nI i), .int (nI j), .int x]) (n := 5) (Nat.le_of_ble_eq_true rfl)
  rw [lg_entry_eq]
  generalize (lg_sl ([.ref qm, .int (nI k), .int (nI i), .int (nI j), .int x]) ++ List.replicate (5 - (lg_sl ([.ref qm, .int (nI k), .int (nI i), .int (nI j), .int x])).length) Slot.unset).toArray = ls at hl ⊢
  have hl : lv_has ls 5 [(0, .ref qm), (1, .int (nI k)), (2, .int (nI i)), (3, .int (nI j)), (4, .int x)] := hl
  refine lv_aload_n hx hb d_Model_token_0 rfl (lv_at hl 0 rfl) ?_
  refine va_get (D := (dC, dI)) (ci := 13) (v := .ref q_tokKind) (C := R_Model) (T := F_Model) (N := 71) hx hb hts i_Model hown hK hP 0 rfl rfl 7 (by decide) (hts _ k_881) (fun _ h9 => h9) rfl d_Model_token_1 ?_
  refine lv_aload_n hx hb d_Model_token_4 rfl (lv_at hl 0 rfl) ?_
  refine va_get (D := (dC, dI)) (ci := 13) (v := .int (nI tn)) (C := R_Model) (T := F_Model) (N := 71) hx hb hts i_Model hown hK hP 0 rfl rfl 11 (by decide) (hts _ k_885) (fun _ h9 => h9) rfl d_Model_token_5 ?_
  refine lv_iload_n hx hb d_Model_token_8 rfl (lv_at hl 1 rfl) ?_
  refine nv_iastN (x := k) hx hb hK hP hD hS 1 1 rfl rfl (by omega) (by decide) d_Model_token_9 (fun H locs hP hD hS => ?_)
  have hP : va_P (dC, dI) cl [(qm, .inr (13, [f0, f1, f2, f3, f4, f5, f6, .ref q_tokKind, .ref q_tokAt, .ref q_tokSize, .ref q_tokValue, .int (nI tn), f12, f13, f14, f15, f16, f17, f18, f19, f20, f21, f22, f23, f24, f25, f26, f27, f28, f29, f30, f31, f32, f33, f34, f35, f36, f37, f38, f39, f40, f41, f42, f43, f44, f45, f46, f47, f48, f49, f50, f51, f52, f53, f54, f55, f56, f57, f58, f59, f60, f61, f62, f63, f64, f65, f66, f67, f68, f69, f70])), (q_tokKind, .inl (cI, 1002, .inl (nF (va_up tk tn k)))), (q_tokAt, .inl (cI, 1002, .inl (nF ta))), (q_tokSize, .inl (cI, 1002, .inl (nF ts))), (q_tokValue, .inl (cI, 1002, .inl tv))] H := hP
  have hD : va_D A [(qm, .inr (13, [f0, f1, f2, f3, f4, f5, f6, .ref q_tokKind, .ref q_tokAt, .ref q_tokSize, .ref q_tokValue, .int (nI tn), f12, f13, f14, f15, f16, f17, f18, f19, f20, f21, f22, f23, f24, f25, f26, f27, f28, f29, f30, f31, f32, f33, f34, f35, f36, f37, f38, f39, f40, f41, f42, f43, f44, f45, f46, f47, f48, f49, f50, f51, f52, f53, f54, f55, f56, f57, f58, f59, f60, f61, f62, f63, f64, f65, f66, f67, f68, f69, f70])), (q_tokKind, .inl (cI, 1002, .inl (nF (va_up tk tn k)))), (q_tokAt, .inl (cI, 1002, .inl (nF ta))), (q_tokSize, .inl (cI, 1002, .inl (nF ts))), (q_tokValue, .inl (cI, 1002, .inl tv))] := hD
  refine lv_aload_n hx hb d_Model_token_10 rfl (lv_at hl 0 rfl) ?_
  refine va_get (D := (dC, dI)) (ci := 13) (v := .ref q_tokAt) (C := R_Model) (T := F_Model) (N := 71) hx hb hts i_Model hown hK hP 0 rfl rfl 8 (by decide) (hts _ k_882) (fun _ h9 => h9) rfl d_Model_token_11 ?_
  refine lv_aload_n hx hb d_Model_token_14 rfl (lv_at hl 0 rfl) ?_
  refine va_get (D := (dC, dI)) (ci := 13) (v := .int (nI tn)) (C := R_Model) (T := F_Model) (N := 71) hx hb hts i_Model hown hK hP 0 rfl rfl 11 (by decide) (hts _ k_885) (fun _ h9 => h9) rfl d_Model_token_15 ?_
  refine lv_iload_n hx hb d_Model_token_18 rfl (lv_at hl 2 rfl) ?_
  refine nv_iastN (x := i) hx hb hK hP hD hS 2 1 rfl rfl (by omega) (by decide) d_Model_token_19 (fun H locs hP hD hS => ?_)
  have hP : va_P (dC, dI) cl [(qm, .inr (13, [f0, f1, f2, f3, f4, f5, f6, .ref q_tokKind, .ref q_tokAt, .ref q_tokSize, .ref q_tokValue, .int (nI tn), f12, f13, f14, f15, f16, f17, f18, f19, f20, f21, f22, f23, f24, f25, f26, f27, f28, f29, f30, f31, f32, f33, f34, f35, f36, f37, f38, f39, f40, f41, f42, f43, f44, f45, f46, f47, f48, f49, f50, f51, f52, f53, f54, f55, f56, f57, f58, f59, f60, f61, f62, f63, f64, f65, f66, f67, f68, f69, f70])), (q_tokKind, .inl (cI, 1002, .inl (nF (va_up tk tn k)))), (q_tokAt, .inl (cI, 1002, .inl (nF (va_up ta tn i)))), (q_tokSize, .inl (cI, 1002, .inl (nF ts))), (q_tokValue, .inl (cI, 1002, .inl tv))] H := hP
  have hD : va_D A [(qm, .inr (13, [f0, f1, f2, f3, f4, f5, f6, .ref q_tokKind, .ref q_tokAt, .ref q_tokSize, .ref q_tokValue, .int (nI tn), f12, f13, f14, f15, f16, f17, f18, f19, f20, f21, f22, f23, f24, f25, f26, f27, f28, f29, f30, f31, f32, f33, f34, f35, f36, f37, f38, f39, f40, f41, f42, f43, f44, f45, f46, f47, f48, f49, f50, f51, f52, f53, f54, f55, f56, f57, f58, f59, f60, f61, f62, f63, f64, f65, f66, f67, f68, f69, f70])), (q_tokKind, .inl (cI, 1002, .inl (nF (va_up tk tn k)))), (q_tokAt, .inl (cI, 1002, .inl (nF (va_up ta tn i)))), (q_tokSize, .inl (cI, 1002, .inl (nF ts))), (q_tokValue, .inl (cI, 1002, .inl tv))] := hD
  refine lv_aload_n hx hb d_Model_token_20 rfl (lv_at hl 0 rfl) ?_
  refine va_get (D := (dC, dI)) (ci := 13) (v := .ref q_tokSize) (C := R_Model) (T := F_Model) (N := 71) hx hb hts i_Model hown hK hP 0 rfl rfl 9 (by decide) (hts _ k_883) (fun _ h9 => h9) rfl d_Model_token_21 ?_
  refine lv_aload_n hx hb d_Model_token_24 rfl (lv_at hl 0 rfl) ?_
  refine va_get (D := (dC, dI)) (ci := 13) (v := .int (nI tn)) (C := R_Model) (T := F_Model) (N := 71) hx hb hts i_Model hown hK hP 0 rfl rfl 11 (by decide) (hts _ k_885) (fun _ h9 => h9) rfl d_Model_token_25 ?_
  refine lv_iload_n hx hb d_Model_token_28 rfl (lv_at hl 3 rfl) ?_
  refine lv_iload_n hx hb d_Model_token_29 rfl (lv_at hl 2 rfl) ?_
  refine nv_isub hx hb (by omega) d_Model_token_30 ?_
  refine nv_iastN (x := j - i) hx hb hK hP hD hS 3 1 rfl rfl (by omega) (by decide) d_Model_token_31 (fun H locs hP hD hS => ?_)
  have hP : va_P (dC, dI) cl [(qm, .inr (13, [f0, f1, f2, f3, f4, f5, f6, .ref q_tokKind, .ref q_tokAt, .ref q_tokSize, .ref q_tokValue, .int (nI tn), f12, f13, f14, f15, f16, f17, f18, f19, f20, f21, f22, f23, f24, f25, f26, f27, f28, f29, f30, f31, f32, f33, f34, f35, f36, f37, f38, f39, f40, f41, f42, f43, f44, f45, f46, f47, f48, f49, f50, f51, f52, f53, f54, f55, f56, f57, f58, f59, f60, f61, f62, f63, f64, f65, f66, f67, f68, f69, f70])), (q_tokKind, .inl (cI, 1002, .inl (nF (va_up tk tn k)))), (q_tokAt, .inl (cI, 1002, .inl (nF (va_up ta tn i)))), (q_tokSize, .inl (cI, 1002, .inl (nF (va_up ts tn (j - i))))), (q_tokValue, .inl (cI, 1002, .inl tv))] H := hP
  have hD : va_D A [(qm, .inr (13, [f0, f1, f2, f3, f4, f5, f6, .ref q_tokKind, .ref q_tokAt, .ref q_tokSize, .ref q_tokValue, .int (nI tn), f12, f13, f14, f15, f16, f17, f18, f19, f20, f21, f22, f23, f24, f25, f26, f27, f28, f29, f30, f31, f32, f33, f34, f35, f36, f37, f38, f39, f40, f41, f42, f43, f44, f45, f46, f47, f48, f49, f50, f51, f52, f53, f54, f55, f56, f57, f58, f59, f60, f61, f62, f63, f64, f65, f66, f67, f68, f69, f70])), (q_tokKind, .inl (cI, 1002, .inl (nF (va_up tk tn k)))), (q_tokAt, .inl (cI, 1002, .inl (nF (va_up ta tn i)))), (q_tokSize, .inl (cI, 1002, .inl (nF (va_up ts tn (j - i))))), (q_tokValue, .inl (cI, 1002, .inl tv))] := hD
  refine lv_aload_n hx hb d_Model_token_32 rfl (lv_at hl 0 rfl) ?_
  refine va_get (D := (dC, dI)) (ci := 13) (v := .ref q_tokValue) (C := R_Model) (T := F_Model) (N := 71) hx hb hts i_Model hown hK hP 0 rfl rfl 10 (by decide) (hts _ k_884) (fun _ h9 => h9) rfl d_Model_token_33 ?_
  refine lv_aload_n hx hb d_Model_token_36 rfl (lv_at hl 0 rfl) ?_
  refine va_get (D := (dC, dI)) (ci := 13) (v := .int (nI tn)) (C := R_Model) (T := F_Model) (N := 71) hx hb hts i_Model hown hK hP 0 rfl rfl 11 (by decide) (hts _ k_885) (fun _ h9 => h9) rfl d_Model_token_37 ?_
  refine lv_iload hx hb d_Model_token_40 (lv_at hl 4 rfl) ?_
  refine nv_iast hx hb hK hP hD hS 4 1 rfl rfl (by omega) (by decide) d_Model_token_42 (fun H locs hP hD hS => ?_)
  have hP : va_P (dC, dI) cl [(qm, .inr (13, [f0, f1, f2, f3, f4, f5, f6, .ref q_tokKind, .ref q_tokAt, .ref q_tokSize, .ref q_tokValue, .int (nI tn), f12, f13, f14, f15, f16, f17, f18, f19, f20, f21, f22, f23, f24, f25, f26, f27, f28, f29, f30, f31, f32, f33, f34, f35, f36, f37, f38, f39, f40, f41, f42, f43, f44, f45, f46, f47, f48, f49, f50, f51, f52, f53, f54, f55, f56, f57, f58, f59, f60, f61, f62, f63, f64, f65, f66, f67, f68, f69, f70])), (q_tokKind, .inl (cI, 1002, .inl (nF (va_up tk tn k)))), (q_tokAt, .inl (cI, 1002, .inl (nF (va_up ta tn i)))), (q_tokSize, .inl (cI, 1002, .inl (nF (va_up ts tn (j - i))))), (q_tokValue, .inl (cI, 1002, .inl (upd tv tn x)))] H := hP
  have hD : va_D A [(qm, .inr (13, [f0, f1, f2, f3, f4, f5, f6, .ref q_tokKind, .ref q_tokAt, .ref q_tokSize, .ref q_tokValue, .int (nI tn), f12, f13, f14, f15, f16, f17, f18, f19, f20, f21, f22, f23, f24, f25, f26, f27, f28, f29, f30, f31, f32, f33, f34, f35, f36, f37, f38, f39, f40, f41, f42, f43, f44, f45, f46, f47, f48, f49, f50, f51, f52, f53, f54, f55, f56, f57, f58, f59, f60, f61, f62, f63, f64, f65, f66, f67, f68, f69, f70])), (q_tokKind, .inl (cI, 1002, .inl (nF (va_up tk tn k)))), (q_tokAt, .inl (cI, 1002, .inl (nF (va_up ta tn i)))), (q_tokSize, .inl (cI, 1002, .inl (nF (va_up ts tn (j - i))))), (q_tokValue, .inl (cI, 1002, .inl (upd tv tn x)))] := hD
  refine lv_aload_n hx hb d_Model_token_43 rfl (lv_at hl 0 rfl) ?_
  refine lv_aload_n hx hb d_Model_token_44 rfl (lv_at hl 0 rfl) ?_
  refine va_get (D := (dC, dI)) (ci := 13) (v := .int (nI tn)) (C := R_Model) (T := F_Model) (N := 71) hx hb hts i_Model hown hK hP 0 rfl rfl 11 (by decide) (hts _ k_885) (fun _ h9 => h9) rfl d_Model_token_45 ?_
  refine lv_iconst (v := nI 1) hx hb d_Model_token_48 (by decide) ?_
  refine nv_iadd hx hb d_Model_token_49 ?_
  refine va_put (D := (dC, dI)) (ci := 13) (v := .int (nI (tn + 1))) (ty := .int) (C := R_Model) (T := F_Model) (N := 71) hx hb hts i_Model t_Model t_Model_ok n_Model hown hK hP hD hS 0 rfl rfl 11 (by decide) (hts _ k_885) (fun _ h9 => h9) rfl (by decide +kernel) rfl rfl (Nat.le_of_ble_eq_true rfl) d_Model_token_50 (fun H locs hP hD hS => ?_)
  have hP : va_P (dC, dI) cl [(qm, .inr (13, [f0, f1, f2, f3, f4, f5, f6, .ref q_tokKind, .ref q_tokAt, .ref q_tokSize, .ref q_tokValue, .int (nI (tn + 1)), f12, f13, f14, f15, f16, f17, f18, f19, f20, f21, f22, f23, f24, f25, f26, f27, f28, f29, f30, f31, f32, f33, f34, f35, f36, f37, f38, f39, f40, f41, f42, f43, f44, f45, f46, f47, f48, f49, f50, f51, f52, f53, f54, f55, f56, f57, f58, f59, f60, f61, f62, f63, f64, f65, f66, f67, f68, f69, f70])), (q_tokKind, .inl (cI, 1002, .inl (nF (va_up tk tn k)))), (q_tokAt, .inl (cI, 1002, .inl (nF (va_up ta tn i)))), (q_tokSize, .inl (cI, 1002, .inl (nF (va_up ts tn (j - i))))), (q_tokValue, .inl (cI, 1002, .inl (upd tv tn x)))] H := hP
  have hD : va_D A [(qm, .inr (13, [f0, f1, f2, f3, f4, f5, f6, .ref q_tokKind, .ref q_tokAt, .ref q_tokSize, .ref q_tokValue, .int (nI (tn + 1)), f12, f13, f14, f15, f16, f17, f18, f19, f20, f21, f22, f23, f24, f25, f26, f27, f28, f29, f30, f31, f32, f33, f34, f35, f36, f37, f38, f39, f40, f41, f42, f43, f44, f45, f46, f47, f48, f49, f50, f51, f52, f53, f54, f55, f56, f57, f58, f59, f60, f61, f62, f63, f64, f65, f66, f67, f68, f69, f70])), (q_tokKind, .inl (cI, 1002, .inl (nF (va_up tk tn k)))), (q_tokAt, .inl (cI, 1002, .inl (nF (va_up ta tn i)))), (q_tokSize, .inl (cI, 1002, .inl (nF (va_up ts tn (j - i))))), (q_tokValue, .inl (cI, 1002, .inl (upd tv tn x)))] := hD
  exact wr_v hx hb hr hlocks () trivial hK hP hD hS d_Model_token_53
