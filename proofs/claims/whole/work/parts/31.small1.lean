def m_isOut (po : Nat → Bool) (i pin : Nat) : Bool := if 1 < i then po pin else if i = 0 then decide (pin = 2) else decide (pin = 1)
def m_wd (pw_ : Nat → Nat) (i pin : Nat) : Nat := if 1 < i then pw_ pin else 1
def m_fits (o : Option Nat) (i j n : Nat) : Bool := if o = none then true else decide (i ≤ j) && decide (j < n)
def m_bits (o : Option Nat) (i j n : Nat) : Nat := if o = none then n else j - i + 1
def m_psum (pw_ : Nat → Nat) : Nat → Nat → Nat → Nat
  | 0, _, n => n
  | k + 1, i, n => m_psum pw_ k (i + 1) (n + pw_ i)
theorem m_psum_u (pw_ : Nat → Nat) (e i n : Nat) : m_psum pw_ (e - i) i n = if i < e then m_psum pw_ (e - (i + 1)) (i + 1) (n + pw_ i) else n := by
  by_cases h : i < e
  · rw [if_pos h, show e - i = (e - (i + 1)) + 1 by omega]; rfl
  · rw [if_neg h, show e - i = 0 by omega]; rfl
theorem d_Model_isOut_0 : decode b_Model_isOut 0 = .ok (.iload_n 1, 1) := by decide +kernel
theorem d_Model_isOut_1 : decode b_Model_isOut 1 = .ok (.iconst 1, 1) := by decide +kernel
theorem d_Model_isOut_2 : decode b_Model_isOut 2 = .ok (.if_icmp .le 12, 3) := by decide +kernel
theorem d_Model_isOut_5 : decode b_Model_isOut 5 = .ok (.aload_n 0, 1) := by decide +kernel
theorem d_Model_isOut_6 : decode b_Model_isOut 6 = .ok (.getfield 39, 3) := by decide +kernel
theorem d_Model_isOut_9 : decode b_Model_isOut 9 = .ok (.iload_n 2, 1) := by decide +kernel
theorem d_Model_isOut_10 : decode b_Model_isOut 10 = .ok (.baload, 1) := by decide +kernel
theorem d_Model_isOut_11 : decode b_Model_isOut 11 = .ok (.goto 30, 3) := by decide +kernel
theorem d_Model_isOut_14 : decode b_Model_isOut 14 = .ok (.iload_n 1, 1) := by decide +kernel
theorem d_Model_isOut_15 : decode b_Model_isOut 15 = .ok (.ifCond .ne 16, 3) := by decide +kernel
theorem d_Model_isOut_18 : decode b_Model_isOut 18 = .ok (.iload_n 2, 1) := by decide +kernel
theorem d_Model_isOut_19 : decode b_Model_isOut 19 = .ok (.iconst 2, 1) := by decide +kernel
theorem d_Model_isOut_20 : decode b_Model_isOut 20 = .ok (.if_icmp .ne 7, 3) := by decide +kernel
theorem d_Model_isOut_23 : decode b_Model_isOut 23 = .ok (.iconst 1, 1) := by decide +kernel
theorem d_Model_isOut_24 : decode b_Model_isOut 24 = .ok (.goto 17, 3) := by decide +kernel
theorem d_Model_isOut_27 : decode b_Model_isOut 27 = .ok (.iconst 0, 1) := by decide +kernel
theorem d_Model_isOut_28 : decode b_Model_isOut 28 = .ok (.goto 13, 3) := by decide +kernel
theorem d_Model_isOut_31 : decode b_Model_isOut 31 = .ok (.iload_n 2, 1) := by decide +kernel
theorem d_Model_isOut_32 : decode b_Model_isOut 32 = .ok (.iconst 1, 1) := by decide +kernel
theorem d_Model_isOut_33 : decode b_Model_isOut 33 = .ok (.if_icmp .ne 7, 3) := by decide +kernel
theorem d_Model_isOut_36 : decode b_Model_isOut 36 = .ok (.iconst 1, 1) := by decide +kernel
theorem d_Model_isOut_37 : decode b_Model_isOut 37 = .ok (.goto 4, 3) := by decide +kernel
theorem d_Model_isOut_40 : decode b_Model_isOut 40 = .ok (.iconst 0, 1) := by decide +kernel
theorem d_Model_isOut_41 : decode b_Model_isOut 41 = .ok (.ireturn, 1) := by decide +kernel
set_option maxHeartbeats 4000000 in
set_option maxRecDepth 100000 in
/-- isOut(i, pin) -/
theorem c_Model_isOut (l : Launch) (dC : Nat → ClassId) (dI : Nat → Nat → Nat) (cB cI cL cZ cC cO : ClassId) {qm q_pinOut : Nat}{f0 f1 f2 f3 f4 f5 f6 f7 f8 f9 f10 f11 f12 f13 f14 f15 f16 f17 f18 f20 f21 f22 f23 f24 f25 f26 f27 f28 f29 f30 f31 f32 f33 f34 f35 f36 f37 f38 f39 f40 f41 f42 f43 f44 f45 f46 f47 f48 f49 f50 f51 f52 f53 f54 f55 f56 f57 f58 f59 f60 f61 f62 f63 f64 f65 f66 f67 f68 f69 f70 : Value} (po : Nat → Bool) (i pin : Nat) (sz : Nat) (hi : i < 2 ^ 31) (hp : pin < 200) : Met l y_Model_isOut w_Model_isOut ({ frames := 0, cells := 0, slots := 0, locals := 0 }) (va_Pc [.ref qm, .int (nI i), .int (nI pin)] (wB (dC, dI) cl [(cB, .byte), (cI, .int), (cL, .long), (cZ, .boolean), (cC, .char), (cO, .object "java/lang/Object")] sz [(qm, .inr (13, [f0, f1, f2, f3, f4, f5, f6, f7, f8, f9, f10, f11, f12, f13, f14, f15, f16, f17, f18, .ref q_pinOut, f20, f21, f22, f23, f24, f25, f26, f27, f28, f29, f30, f31, f32, f33, f34, f35, f36, f37, f38, f39, f40, f41, f42, f43, f44, f45, f46, f47, f48, f49, f50, f51, f52, f53, f54, f55, f56, f57, f58, f59, f60, f61, f62, f63, f64, f65, f66, f67, f68, f69, f70])), (q_pinOut, .inl (cZ, 200, .inl (bF po)))])) (va_Qi (fun (r : Int32) (u : Unit) => r = bI (m_isOut po i pin)) (fun _ t => wA (dC, dI) cl [(cB, .byte), (cI, .int), (cL, .long), (cZ, .boolean), (cC, .char), (cO, .object "java/lang/Object")] (va_A [(qm, .inr (13, [f0, f1, f2, f3, f4, f5, f6, f7, f8, f9, f10, f11, f12, f13, f14, f15, f16, f17, f18, .ref q_pinOut, f20, f21, f22, f23, f24, f25, f26, f27, f28, f29, f30, f31, f32, f33, f34, f35, f36, f37, f38, f39, f40, f41, f42, f43, f44, f45, f46, f47, f48, f49, f50, f51, f52, f53, f54, f55, f56, f57, f58, f59, f60, f61, f62, f63, f64, f65, f66, f67, f68, f69, f70])), (q_pinOut, .inl (cZ, 200, .inl (bF po)))] sz) [(qm, .inr (13, [f0, f1, f2, f3, f4, f5, f6, f7, f8, f9, f10, f11, f12, f13, f14, f15, f16, f17, f18, .ref q_pinOut, f20, f21, f22, f23, f24, f25, f26, f27, f28, f29, f30, f31, f32, f33, f34, f35, f36, f37, f38, f39, f40, f41, f42, f43, f44, f45, f46, f47, f48, f49, f50, f51, f52, f53, f54, f55, f56, f57, f58, f59, f60, f61, f62, f63, f64, f65, f66, f67, f68, f69, f70])), (q_pinOut, .inl (cZ, 200, .inl (bF po)))] t) (va_A [(qm, .inr (13, [f0, f1, f2, f3, f4, f5, f6, f7, f8, f9, f10, f11, f12, f13, f14, f15, f16, f17, f18, .ref q_pinOut, f20, f21, f22, f23, f24, f25, f26, f27, f28, f29, f30, f31, f32, f33, f34, f35, f36, f37, f38, f39, f40, f41, f42, f43, f44, f45, f46, f47, f48, f49, f50, f51, f52, f53, f54, f55, f56, f57, f58, f59, f60, f61, f62, f63, f64, f65, f66, f67, f68, f69, f70])), (q_pinOut, .inl (cZ, 200, .inl (bF po)))] sz)) 0 0 (va_A [(qm, .inr (13, [f0, f1, f2, f3, f4, f5, f6, f7, f8, f9, f10, f11, f12, f13, f14, f15, f16, f17, f18, .ref q_pinOut, f20, f21, f22, f23, f24, f25, f26, f27, f28, f29, f30, f31, f32, f33, f34, f35, f36, f37, f38, f39, f40, f41, f42, f43, f44, f45, f46, f47, f48, f49, f50, f51, f52, f53, f54, f55, f56, f57, f58, f59, f60, f61, f62, f63, f64, f65, f66, f67, f68, f69, f70])), (q_pinOut, .inl (cZ, 200, .inl (bF po)))] sz) := by
  refine Met.ofW (cc := b_Model_isOut) (maxL := 3) (ret := (some ClassFile.FieldType.boolean)) (by decide) rfl ?_
  intro p e s m args below meth c s₁ B hml hv
  obtain ⟨rfl, hsz, hP, hK, hD0, hF⟩ := hv
  have hx := B.exec
  have hb := B.bytes
  have hr := B.returns
  have hts := atoms_spec (ws := w_Model_isOut) B.pre
  have hts : ∀ w ∈ tb, w.before _ s = true := fun w h => hts w (List.mem_cons_of_mem _ h)
  have hown : s.vm.findClass R_Model = some m.cls := findClass_of_methodNamed B.named
  have hlocks := B.notSynchronized
  subst hsz
  have hD := hD0.self (sz := s.heap.size)
  generalize hAe : va_A [(qm, .inr (13, [f0, f1, f2, f3, f4, f5, f6, f7, f8, f9, f10, f11, f12, f13, f14, f15, f16, f17, f18, .ref q_pinOut, f20, f21, f22, f23, f24, f25, f26, f27, f28, f29, f30, f31, f32, f33, f34, f35, f36, f37, f38, f39, f40, f41, f42, f43, f44, f45, f46, f47, f48, f49, f50, f51, f52, f53, f54, f55, f56, f57, f58, f59, f60, f61, f62, f63, f64, f65, f66, f67, f68, f69, f70])), (q_pinOut, .inl (cZ, 200, .inl (bF po)))] s.heap.size = A at hD hF ⊢
  have hA : ∀ q : Nat, s.heap.size ≤ q → A q := fun q h => by rw [← hAe]; exact Or.inr h
  have hS : va_S A s.heap s.heap [] := va_S.rf
  have hP : va_P (dC, dI) cl [(qm, .inr (13, [f0, f1, f2, f3, f4, f5, f6, f7, f8, f9, f10, f11, f12, f13, f14, f15, f16, f17, f18, .ref q_pinOut, f20, f21, f22, f23, f24, f25, f26, f27, f28, f29, f30, f31, f32, f33, f34, f35, f36, f37, f38, f39, f40, f41, f42, f43, f44, f45, f46, f47, f48, f49, f50, f51, f52, f53, f54, f55, f56, f57, f58, f59, f60, f61, f62, f63, f64, f65, f66, f67, f68, f69, f70])), (q_pinOut, .inl (cZ, 200, .inl (bF po)))] s.heap := hP
  have hl := lv_entry ([.ref qm, .int (nI i), .int (nI pin)]) (n := 3) (Nat.le_of_ble_eq_true rfl)
  rw [lg_entry_eq]
  generalize (lg_sl ([.ref qm, .int (nI i), .int (nI pin)]) ++ List.replicate (3 - (lg_sl ([.ref qm, .int (nI i), .int (nI pin)])).length) Slot.unset).toArray = ls at hl ⊢
  have hl : lv_has ls 3 [(0, .ref qm), (1, .int (nI i)), (2, .int (nI pin))] := hl
  refine lv_iload_n hx hb d_Model_isOut_0 rfl (lv_at hl 1 rfl) ?_
  refine lv_iconst (v := nI 1) hx hb d_Model_isOut_1 (by decide) ?_
  refine nv_icmp_le (tgt := 14) hx hb (by omega) (by omega) d_Model_isOut_2 (by decide) (fun c_1 => ?_) (fun c_1 => ?_)
  · refine lv_iload_n hx hb d_Model_isOut_14 rfl (lv_at hl 1 rfl) ?_
    refine nv_if_ne (tgt := 31) hx hb (by omega) d_Model_isOut_15 (by decide) (fun c_2 => ?_) (fun c_2 => ?_)
    · refine lv_iload_n hx hb d_Model_isOut_31 rfl (lv_at hl 2 rfl) ?_
      refine lv_iconst (v := nI 1) hx hb d_Model_isOut_32 (by decide) ?_
      refine nv_icmp_ne (tgt := 40) hx hb (by omega) (by omega) d_Model_isOut_33 (by decide) (fun c_3 => ?_) (fun c_3 => ?_)
      · refine lv_iconst (v := nI 0) hx hb d_Model_isOut_40 (by decide) ?_
        exact wr_z (x := false) hx hb hr hlocks () (congrArg bI (by unfold m_isOut; rw [if_neg (by omega)]; (first | rw [if_pos c_2] | rw [if_neg c_2]); simp [c_3])) hK hP hD hS d_Model_isOut_41
      · refine lv_iconst (v := nI 1) hx hb d_Model_isOut_36 (by decide) ?_
        refine lv_goto (tgt := 41) hx hb d_Model_isOut_37 (by decide) ?_
        exact wr_z (x := true) hx hb hr hlocks () (congrArg bI (by unfold m_isOut; rw [if_neg (by omega)]; (first | rw [if_pos c_2] | rw [if_neg c_2]); simp [c_3])) hK hP hD hS d_Model_isOut_41
    · refine lv_iload_n hx hb d_Model_isOut_18 rfl (lv_at hl 2 rfl) ?_
      refine lv_iconst (v := nI 2) hx hb d_Model_isOut_19 (by decide) ?_
      refine nv_icmp_ne (tgt := 27) hx hb (by omega) (by omega) d_Model_isOut_20 (by decide) (fun c_4 => ?_) (fun c_4 => ?_)
      · refine lv_iconst (v := nI 0) hx hb d_Model_isOut_27 (by decide) ?_
        refine lv_goto (tgt := 41) hx hb d_Model_isOut_28 (by decide) ?_
        exact wr_z (x := false) hx hb hr hlocks () (congrArg bI (by unfold m_isOut; rw [if_neg (by omega)]; (first | rw [if_pos c_2] | rw [if_neg c_2]); simp [c_4])) hK hP hD hS d_Model_isOut_41
      · refine lv_iconst (v := nI 1) hx hb d_Model_isOut_23 (by decide) ?_
        refine lv_goto (tgt := 41) hx hb d_Model_isOut_24 (by decide) ?_
        exact wr_z (x := true) hx hb hr hlocks () (congrArg bI (by unfold m_isOut; rw [if_neg (by omega)]; (first | rw [if_pos c_2] | rw [if_neg c_2]); simp [c_4])) hK hP hD hS d_Model_isOut_41
  · refine lv_aload_n hx hb d_Model_isOut_5 rfl (lv_at hl 0 rfl) ?_
    refine va_get (D := (dC, dI)) (ci := 13) (v := .ref q_pinOut) (C := R_Model) (T := F_Model) (N := 71) hx hb hts i_Model hown hK hP 0 rfl rfl 19 (by decide) (hts _ k_893) (fun _ h9 => h9) rfl d_Model_isOut_6 ?_
    refine lv_iload_n hx hb d_Model_isOut_9 rfl (lv_at hl 2 rfl) ?_
    refine nv_zald hx hb hK hP 1 3 rfl rfl (by omega) (by decide) d_Model_isOut_10 ?_
    refine lv_goto (tgt := 41) hx hb d_Model_isOut_11 (by decide) ?_
    exact wr_z (x := po pin) hx hb hr hlocks () (congrArg bI (by unfold m_isOut; rw [if_pos (by omega)])) hK hP hD hS d_Model_isOut_41
theorem d_Model_widthOf_0 : decode b_Model_widthOf 0 = .ok (.iload_n 1, 1) := by decide +kernel
theorem d_Model_widthOf_1 : decode b_Model_widthOf 1 = .ok (.iconst 1, 1) := by decide +kernel
theorem d_Model_widthOf_2 : decode b_Model_widthOf 2 = .ok (.if_icmp .le 12, 3) := by decide +kernel
theorem d_Model_widthOf_5 : decode b_Model_widthOf 5 = .ok (.aload_n 0, 1) := by decide +kernel
theorem d_Model_widthOf_6 : decode b_Model_widthOf 6 = .ok (.getfield 46, 3) := by decide +kernel
theorem d_Model_widthOf_9 : decode b_Model_widthOf 9 = .ok (.iload_n 2, 1) := by decide +kernel
theorem d_Model_widthOf_10 : decode b_Model_widthOf 10 = .ok (.iaload, 1) := by decide +kernel
theorem d_Model_widthOf_11 : decode b_Model_widthOf 11 = .ok (.goto 4, 3) := by decide +kernel
theorem d_Model_widthOf_14 : decode b_Model_widthOf 14 = .ok (.iconst 1, 1) := by decide +kernel
theorem d_Model_widthOf_15 : decode b_Model_widthOf 15 = .ok (.ireturn, 1) := by decide +kernel
set_option maxHeartbeats 4000000 in
set_option maxRecDepth 100000 in
/-- widthOf(i, pin) -/
theorem c_Model_widthOf (l : Launch) (dC : Nat → ClassId) (dI : Nat → Nat → Nat) (cB cI cL cZ cC cO : ClassId) {qm q_pinWidth : Nat}{f0 f1 f2 f3 f4 f5 f6 f7 f8 f9 f10 f11 f12 f13 f14 f15 f16 f17 f18 f19 f20 f22 f23 f24 f25 f26 f27 f28 f29 f30 f31 f32 f33 f34 f35 f36 f37 f38 f39 f40 f41 f42 f43 f44 f45 f46 f47 f48 f49 f50 f51 f52 f53 f54 f55 f56 f57 f58 f59 f60 f61 f62 f63 f64 f65 f66 f67 f68 f69 f70 : Value} (pw_ : Nat → Nat) (i pin : Nat) (sz : Nat) (hi : i < 2 ^ 31) (hp : pin < 200) : Met l y_Model_widthOf w_Model_widthOf ({ frames := 0, cells := 0, slots := 0, locals := 0 }) (va_Pc [.ref qm, .int (nI i), .int (nI pin)] (wB (dC, dI) cl [(cB, .byte), (cI, .int), (cL, .long), (cZ, .boolean), (cC, .char), (cO, .object "java/lang/Object")] sz [(qm, .inr (13, [f0, f1, f2, f3, f4, f5, f6, f7, f8, f9, f10, f11, f12, f13, f14, f15, f16, f17, f18, f19, f20, .ref q_pinWidth, f22, f23, f24, f25, f26, f27, f28, f29, f30, f31, f32, f33, f34, f35, f36, f37, f38, f39, f40, f41, f42, f43, f44, f45, f46, f47, f48, f49, f50, f51, f52, f53, f54, f55, f56, f57, f58, f59, f60, f61, f62, f63, f64, f65, f66, f67, f68, f69, f70])), (q_pinWidth, .inl (cI, 200, .inl (nF pw_)))])) (va_Qi (fun (r : Int32) (u : Unit) => r = nI (m_wd pw_ i pin)) (fun _ t => wA (dC, dI) cl [(cB, .byte), (cI, .int), (cL, .long), (cZ, .boolean), (cC, .char), (cO, .object "java/lang/Object")] (va_A [(qm, .inr (13, [f0, f1, f2, f3, f4, f5, f6, f7, f8, f9, f10, f11, f12, f13, f14, f15, f16, f17, f18, f19, f20, .ref q_pinWidth, f22, f23, f24, f25, f26, f27, f28, f29, f30, f31, f32, f33, f34, f35, f36, f37, f38, f39, f40, f41, f42, f43, f44, f45, f46, f47, f48, f49, f50, f51, f52, f53, f54, f55, f56, f57, f58, f59, f60, f61, f62, f63, f64, f65, f66, f67, f68, f69, f70])), (q_pinWidth, .inl (cI, 200, .inl (nF pw_)))] sz) [(qm, .inr (13, [f0, f1, f2, f3, f4, f5, f6, f7, f8, f9, f10, f11, f12, f13, f14, f15, f16, f17, f18, f19, f20, .ref q_pinWidth, f22, f23, f24, f25, f26, f27, f28, f29, f30, f31, f32, f33, f34, f35, f36, f37, f38, f39, f40, f41, f42, f43, f44, f45, f46, f47, f48, f49, f50, f51, f52, f53, f54, f55, f56, f57, f58, f59, f60, f61, f62, f63, f64, f65, f66, f67, f68, f69, f70])), (q_pinWidth, .inl (cI, 200, .inl (nF pw_)))] t) (va_A [(qm, .inr (13, [f0, f1, f2, f3, f4, f5, f6, f7, f8, f9, f10, f11, f12, f13, f14, f15, f16, f17, f18, f19, f20, .ref q_pinWidth, f22, f23, f24, f25, f26, f27, f28, f29, f30, f31, f32, f33, f34, f35, f36, f37, f38, f39, f40, f41, f42, f43, f44, f45, f46, f47, f48, f49, f50, f51, f52, f53, f54, f55, f56, f57, f58, f59, f60, f61, f62, f63, f64, f65, f66, f67, f68, f69, f70])), (q_pinWidth, .inl (cI, 200, .inl (nF pw_)))] sz)) 0 0 (va_A [(qm, .inr (13, [f0, f1, f2, f3, f4, f5, f6, f7, f8, f9, f10, f11, f12, f13, f14, f15, f16, f17, f18, f19, f20, .ref q_pinWidth, f22, f23, f24, f25, f26, f27, f28, f29, f30, f31, f32, f33, f34, f35, f36, f37, f38, f39, f40, f41, f42, f43, f44, f45, f46, f47, f48, f49, f50, f51, f52, f53, f54, f55, f56, f57, f58, f59, f60, f61, f62, f63, f64, f65, f66, f67, f68, f69, f70])), (q_pinWidth, .inl (cI, 200, .inl (nF pw_)))] sz) := by
  refine Met.ofW (cc := b_Model_widthOf) (maxL := 3) (ret := (some ClassFile.FieldType.int)) (by decide) rfl ?_
  intro p e s m args below meth c s₁ B hml hv
  obtain ⟨rfl, hsz, hP, hK, hD0, hF⟩ := hv
  have hx := B.exec
  have hb := B.bytes
  have hr := B.returns
  have hts := atoms_spec (ws := w_Model_widthOf) B.pre
  have hts : ∀ w ∈ tb, w.before _ s = true := fun w h => hts w (List.mem_cons_of_mem _ h)
  have hown : s.vm.findClass R_Model = some m.cls := findClass_of_methodNamed B.named
  have hlocks := B.notSynchronized
  subst hsz
  have hD := hD0.self (sz := s.heap.size)
  generalize hAe : va_A [(qm, .inr (13, [f0, f1, f2, f3, f4, f5, f6, f7, f8, f9, f10, f11, f12, f13, f14, f15, f16, f17, f18, f19, f20, .ref q_pinWidth, f22, f23, f24, f25, f26, f27, f28, f29, f30, f31, f32, f33, f34, f35, f36, f37, f38, f39, f40, f41, f42, f43, f44, f45, f46, f47, f48, f49, f50, f51, f52, f53, f54, f55, f56, f57, f58, f59, f60, f61, f62, f63, f64, f65, f66, f67, f68, f69, f70])), (q_pinWidth, .inl (cI, 200, .inl (nF pw_)))] s.heap.size = A at hD hF ⊢
  have hA : ∀ q : Nat, s.heap.size ≤ q → A q := fun q h => by rw [← hAe]; exact Or.inr h
  have hS : va_S A s.heap s.heap [] := va_S.rf
  have hP : va_P (dC, dI) cl [(qm, .inr (13, [f0, f1, f2, f3, f4, f5, f6, f7, f8, f9, f10, f11, f12, f13, f14, f15, f16, f17, f18, f19, f20, .ref q_pinWidth, f22, f23, f24, f25, f26, f27, f28, f29, f30, f31, f32, f33, f34, f35, f36, f37, f38, f39, f40, f41, f42, f43, f44, f45, f46, f47, f48, f49, f50, f51, f52, f53, f54, f55, f56, f57, f58, f59, f60, f61, f62, f63, f64, f65, f66, f67, f68, f69, f70])), (q_pinWidth, .inl (cI, 200, .inl (nF pw_)))] s.heap := hP
  have hl := lv_entry ([.ref qm, .int (nI i), .int (nI pin)]) (n := 3) (Nat.le_of_ble_eq_true rfl)
  rw [lg_entry_eq]
  generalize (lg_sl ([.ref qm, .int (nI i), .int (nI pin)]) ++ List.replicate (3 - (lg_sl ([.ref qm, .int (nI i), .int (nI pin)])).length) Slot.unset).toArray = ls at hl ⊢
  have hl : lv_has ls 3 [(0, .ref qm), (1, .int (nI i)), (2, .int (nI pin))] := hl
  refine lv_iload_n hx hb d_Model_widthOf_0 rfl (lv_at hl 1 rfl) ?_
  refine lv_iconst (v := nI 1) hx hb d_Model_widthOf_1 (by decide) ?_
  refine nv_icmp_le (tgt := 14) hx hb (by omega) (by omega) d_Model_widthOf_2 (by decide) (fun c_1 => ?_) (fun c_1 => ?_)
  · refine lv_iconst (v := nI 1) hx hb d_Model_widthOf_14 (by decide) ?_
    exact wr_i hx hb hr hlocks () (congrArg nI (by unfold m_wd; first | rw [if_pos (by omega)] | rw [if_neg (by omega)] | rw [if_pos c_1] | rw [if_neg c_1])) hK hP hD hS d_Model_widthOf_15
  · refine lv_aload_n hx hb d_Model_widthOf_5 rfl (lv_at hl 0 rfl) ?_
    refine va_get (D := (dC, dI)) (ci := 13) (v := .ref q_pinWidth) (C := R_Model) (T := F_Model) (N := 71) hx hb hts i_Model hown hK hP 0 rfl rfl 21 (by decide) (hts _ k_895) (fun _ h9 => h9) rfl d_Model_widthOf_6 ?_
    refine lv_iload_n hx hb d_Model_widthOf_9 rfl (lv_at hl 2 rfl) ?_
    refine nv_iald hx hb hK hP 1 1 rfl rfl (by omega) (by decide) d_Model_widthOf_10 ?_
    refine lv_goto (tgt := 15) hx hb d_Model_widthOf_11 (by decide) ?_
    exact wr_i hx hb hr hlocks () (congrArg nI (by unfold m_wd; first | rw [if_pos (by omega)] | rw [if_neg (by omega)] | rw [if_pos c_1] | rw [if_neg c_1])) hK hP hD hS d_Model_widthOf_15
theorem d_Model_rangeFits_0 : decode b_Model_rangeFits 0 = .ok (.iload_n 1, 1) := by decide +kernel
theorem d_Model_rangeFits_1 : decode b_Model_rangeFits 1 = .ok (.iconst (-1), 1) := by decide +kernel
theorem d_Model_rangeFits_2 : decode b_Model_rangeFits 2 = .ok (.if_icmp .eq 14, 3) := by decide +kernel
theorem d_Model_rangeFits_5 : decode b_Model_rangeFits 5 = .ok (.iload_n 2, 1) := by decide +kernel
theorem d_Model_rangeFits_6 : decode b_Model_rangeFits 6 = .ok (.iload_n 3, 1) := by decide +kernel
theorem d_Model_rangeFits_7 : decode b_Model_rangeFits 7 = .ok (.if_icmp .gt 13, 3) := by decide +kernel
theorem d_Model_rangeFits_10 : decode b_Model_rangeFits 10 = .ok (.iload_n 3, 1) := by decide +kernel
theorem d_Model_rangeFits_11 : decode b_Model_rangeFits 11 = .ok (.iload 4, 2) := by decide +kernel
theorem d_Model_rangeFits_13 : decode b_Model_rangeFits 13 = .ok (.if_icmp .ge 7, 3) := by decide +kernel
theorem d_Model_rangeFits_16 : decode b_Model_rangeFits 16 = .ok (.iconst 1, 1) := by decide +kernel
theorem d_Model_rangeFits_17 : decode b_Model_rangeFits 17 = .ok (.goto 4, 3) := by decide +kernel
theorem d_Model_rangeFits_20 : decode b_Model_rangeFits 20 = .ok (.iconst 0, 1) := by decide +kernel
theorem d_Model_rangeFits_21 : decode b_Model_rangeFits 21 = .ok (.ireturn, 1) := by decide +kernel
set_option maxHeartbeats 4000000 in
set_option maxRecDepth 100000 in
/-- rangeFits(o, i, j, n) -/
theorem c_Model_rangeFits (l : Launch) (dC : Nat → ClassId) (dI : Nat → Nat → Nat) (cB cI cL cZ cC cO : ClassId) {qm  : Nat}{f0 f1 f2 f3 f4 f5 f6 f7 f8 f9 f10 f11 f12 f13 f14 f15 f16 f17 f18 f19 f20 f21 f22 f23 f24 f25 f26 f27 f28 f29 f30 f31 f32 f33 f34 f35 f36 f37 f38 f39 f40 f41 f42 f43 f44 f45 f46 f47 f48 f49 f50 f51 f52 f53 f54 f55 f56 f57 f58 f59 f60 f61 f62 f63 f64 f65 f66 f67 f68 f69 f70 : Value} (o : Option Nat) (i j n : Nat) (sz : Nat) (ho : ∀ z, o = some z → z < 2 ^ 31) (hi : i < 2 ^ 31) (hj : j < 2 ^ 31) (hn : n < 2 ^ 31) : Met l y_Model_rangeFits w_Model_rangeFits ({ frames := 0, cells := 0, slots := 0, locals := 0 }) (va_Pc [.ref qm, .int (oI o), .int (nI i), .int (nI j), .int (nI n)] (wB (dC, dI) cl [(cB, .byte), (cI, .int), (cL, .long), (cZ, .boolean), (cC, .char), (cO, .object "java/lang/Object")] sz [(qm, .inr (13, [f0, f1, f2, f3, f4, f5, f6, f7, f8, f9, f10, f11, f12, f13, f14, f15, f16, f17, f18, f19, f20, f21, f22, f23, f24, f25, f26, f27, f28, f29, f30, f31, f32, f33, f34, f35, f36, f37, f38, f39, f40, f41, f42, f43, f44, f45, f46, f47, f48, f49, f50, f51, f52, f53, f54, f55, f56, f57, f58, f59, f60, f61, f62, f63, f64, f65, f66, f67, f68, f69, f70]))])) (va_Qi (fun (r : Int32) (u : Unit) => r = bI (m_fits o i j n)) (fun _ t => wA (dC, dI) cl [(cB, .byte), (cI, .int), (cL, .long), (cZ, .boolean), (cC, .char), (cO, .object "java/lang/Object")] (va_A [(qm, .inr (13, [f0, f1, f2, f3, f4, f5, f6, f7, f8, f9, f10, f11, f12, f13, f14, f15, f16, f17, f18, f19, f20, f21, f22, f23, f24, f25, f26, f27, f28, f29, f30, f31, f32, f33, f34, f35, f36, f37, f38, f39, f40, f41, f42, f43, f44, f45, f46, f47, f48, f49, f50, f51, f52, f53, f54, f55, f56, f57, f58, f59, f60, f61, f62, f63, f64, f65, f66, f67, f68, f69, f70]))] sz) [(qm, .inr (13, [f0, f1, f2, f3, f4, f5, f6, f7, f8, f9, f10, f11, f12, f13, f14, f15, f16, f17, f18, f19, f20, f21, f22, f23, f24, f25, f26, f27, f28, f29, f30, f31, f32, f33, f34, f35, f36, f37, f38, f39, f40, f41, f42, f43, f44, f45, f46, f47, f48, f49, f50, f51, f52, f53, f54, f55, f56, f57, f58, f59, f60, f61, f62, f63, f64, f65, f66, f67, f68, f69, f70]))] t) (va_A [(qm, .inr (13, [f0, f1, f2, f3, f4, f5, f6, f7, f8, f9, f10, f11, f12, f13, f14, f15, f16, f17, f18, f19, f20, f21, f22, f23, f24, f25, f26, f27, f28, f29, f30, f31, f32, f33, f34, f35, f36, f37, f38, f39, f40, f41, f42, f43, f44, f45, f46, f47, f48, f49, f50, f51, f52, f53, f54, f55, f56, f57, f58, f59, f60, f61, f62, f63, f64, f65, f66, f67, f68, f69, f70]))] sz)) 0 0 (va_A [(qm, .inr (13, [f0, f1, f2, f3, f4, f5, f6, f7, f8, f9, f10, f11, f12, f13, f14, f15, f16, f17, f18, f19, f20, f21, f22, f23, f24, f25, f26, f27, f28, f29, f30, f31, f32, f33, f34, f35, f36, f37, f38, f39, f40, f41, f42, f43, f44, f45, f46, f47, f48, f49, f50, f51, f52, f53, f54, f55, f56, f57, f58, f59, f60, f61, f62, f63, f64, f65, f66, f67, f68, f69, f70]))] sz) := by
  refine Met.ofW (cc := b_Model_rangeFits) (maxL := 5) (ret := (some ClassFile.FieldType.boolean)) (by decide) rfl ?_
  intro p e s m args below meth c s₁ B hml hv
  obtain ⟨rfl, hsz, hP, hK, hD0, hF⟩ := hv
  have hx := B.exec
  have hb := B.bytes
  have hr := B.returns
  have hts := atoms_spec (ws := w_Model_rangeFits) B.pre
  have hts : ∀ w ∈ tb, w.before _ s = true := fun w h => hts w (List.mem_cons_of_mem _ h)
  have hown : s.vm.findClass R_Model = some m.cls := findClass_of_methodNamed B.named
  have hlocks := B.notSynchronized
  subst hsz
  have hD := hD0.self (sz := s.heap.size)
  generalize hAe : va_A [(qm, .inr (13, [f0, f1, f2, f3, f4, f5, f6, f7, f8, f9, f10, f11, f12, f13, f14, f15, f16, f17, f18, f19, f20, f21, f22, f23, f24, f25, f26, f27, f28, f29, f30, f31, f32, f33, f34, f35, f36, f37, f38, f39, f40, f41, f42, f43, f44, f45, f46, f47, f48, f49, f50, f51, f52, f53, f54, f55, f56, f57, f58, f59, f60, f61, f62, f63, f64, f65, f66, f67, f68, f69, f70]))] s.heap.size = A at hD hF ⊢
  have hA : ∀ q : Nat, s.heap.size ≤ q → A q := fun q h => by rw [← hAe]; exact Or.inr h
  have hS : va_S A s.heap s.heap [] := va_S.rf
  have hP : va_P (dC, dI) cl [(qm, .inr (13, [f0, f1, f2, f3, f4, f5, f6, f7, f8, f9, f10, f11, f12, f13, f14, f15, f16, f17, f18, f19, f20, f21, f22, f23, f24, f25, f26, f27, f28, f29, f30, f31, f32, f33, f34, f35, f36, f37, f38, f39, f40, f41, f42, f43, f44, f45, f46, f47, f48, f49, f50, f51, f52, f53, f54, f55, f56, f57, f58, f59, f60, f61, f62, f63, f64, f65, f66, f67, f68, f69, f70]))] s.heap := hP
  have hl := lv_entry ([.ref qm, .int (oI o), .int (nI i), .int (nI j), .int (nI n)]) (n := 5) (Nat.le_of_ble_eq_true rfl)
  rw [lg_entry_eq]
  generalize (lg_sl ([.ref qm, .int (oI o), .int (nI i), .int (nI j), .int (nI n)]) ++ List.replicate (5 - (lg_sl ([.ref qm, .int (oI o), .int (nI i), .int (nI j), .int (nI n)])).length) Slot.unset).toArray = ls at hl ⊢
  have hl : lv_has ls 5 [(0, .ref qm), (1, .int (oI o)), (2, .int (nI i)), (3, .int (nI j)), (4, .int (nI n))] := hl
  refine lv_iload_n hx hb d_Model_rangeFits_0 rfl (lv_at hl 1 rfl) ?_
  refine lv_iconst (v := (-1)) hx hb d_Model_rangeFits_1 (by decide) ?_
  refine nv_oicmp_eq (tgt := 16) hx hb ho d_Model_rangeFits_2 (by decide) (fun c_1 => ?_) (fun c_1 => ?_)
  · refine lv_iconst (v := nI 1) hx hb d_Model_rangeFits_16 (by decide) ?_
    refine lv_goto (tgt := 21) hx hb d_Model_rangeFits_17 (by decide) ?_
    exact wr_z (x := true) hx hb hr hlocks () (congrArg bI (by unfold m_fits; first | rw [if_pos c_1] | (rw [if_neg c_1]; simp; omega))) hK hP hD hS d_Model_rangeFits_21
  · refine lv_iload_n hx hb d_Model_rangeFits_5 rfl (lv_at hl 2 rfl) ?_
    refine lv_iload_n hx hb d_Model_rangeFits_6 rfl (lv_at hl 3 rfl) ?_
    refine nv_icmp_gt (tgt := 20) hx hb (by omega) (by omega) d_Model_rangeFits_7 (by decide) (fun c_2 => ?_) (fun c_2 => ?_)
    · refine lv_iconst (v := nI 0) hx hb d_Model_rangeFits_20 (by decide) ?_
      exact wr_z (x := false) hx hb hr hlocks () (congrArg bI (by unfold m_fits; first | rw [if_pos c_1] | (rw [if_neg c_1]; simp; omega))) hK hP hD hS d_Model_rangeFits_21
    · refine lv_iload_n hx hb d_Model_rangeFits_10 rfl (lv_at hl 3 rfl) ?_
      refine lv_iload hx hb d_Model_rangeFits_11 (lv_at hl 4 rfl) ?_
      refine nv_icmp_ge (tgt := 20) hx hb (by omega) (by omega) d_Model_rangeFits_13 (by decide) (fun c_3 => ?_) (fun c_3 => ?_)
      · refine lv_iconst (v := nI 0) hx hb d_Model_rangeFits_20 (by decide) ?_
        exact wr_z (x := false) hx hb hr hlocks () (congrArg bI (by unfold m_fits; first | rw [if_pos c_1] | (rw [if_neg c_1]; simp; omega))) hK hP hD hS d_Model_rangeFits_21
      · refine lv_iconst (v := nI 1) hx hb d_Model_rangeFits_16 (by decide) ?_
        refine lv_goto (tgt := 21) hx hb d_Model_rangeFits_17 (by decide) ?_
        exact wr_z (x := true) hx hb hr hlocks () (congrArg bI (by unfold m_fits; first | rw [if_pos c_1] | (rw [if_neg c_1]; simp; omega))) hK hP hD hS d_Model_rangeFits_21
theorem d_Model_bitsOf_0 : decode b_Model_bitsOf 0 = .ok (.iload_n 1, 1) := by decide +kernel
theorem d_Model_bitsOf_1 : decode b_Model_bitsOf 1 = .ok (.iconst (-1), 1) := by decide +kernel
theorem d_Model_bitsOf_2 : decode b_Model_bitsOf 2 = .ok (.if_icmp .ne 8, 3) := by decide +kernel
theorem d_Model_bitsOf_5 : decode b_Model_bitsOf 5 = .ok (.iload 4, 2) := by decide +kernel
theorem d_Model_bitsOf_7 : decode b_Model_bitsOf 7 = .ok (.goto 8, 3) := by decide +kernel
theorem d_Model_bitsOf_10 : decode b_Model_bitsOf 10 = .ok (.iload_n 3, 1) := by decide +kernel
theorem d_Model_bitsOf_11 : decode b_Model_bitsOf 11 = .ok (.iload_n 2, 1) := by decide +kernel
theorem d_Model_bitsOf_12 : decode b_Model_bitsOf 12 = .ok (.isub, 1) := by decide +kernel
theorem d_Model_bitsOf_13 : decode b_Model_bitsOf 13 = .ok (.iconst 1, 1) := by decide +kernel
theorem d_Model_bitsOf_14 : decode b_Model_bitsOf 14 = .ok (.iadd, 1) := by decide +kernel
theorem d_Model_bitsOf_15 : decode b_Model_bitsOf 15 = .ok (.ireturn, 1) := by decide +kernel
set_option maxHeartbeats 4000000 in
set_option maxRecDepth 100000 in
/-- bitsOf(o, i, j, n) -/
theorem c_Model_bitsOf (l : Launch) (dC : Nat → ClassId) (dI : Nat → Nat → Nat) (cB cI cL cZ cC cO : ClassId) {qm  : Nat}{f0 f1 f2 f3 f4 f5 f6 f7 f8 f9 f10 f11 f12 f13 f14 f15 f16 f17 f18 f19 f20 f21 f22 f23 f24 f25 f26 f27 f28 f29 f30 f31 f32 f33 f34 f35 f36 f37 f38 f39 f40 f41 f42 f43 f44 f45 f46 f47 f48 f49 f50 f51 f52 f53 f54 f55 f56 f57 f58 f59 f60 f61 f62 f63 f64 f65 f66 f67 f68 f69 f70 : Value} (o : Option Nat) (i j n : Nat) (sz : Nat) (ho : ∀ z, o = some z → z < 2 ^ 31) (hij : i ≤ j) : Met l y_Model_bitsOf w_Model_bitsOf ({ frames := 0, cells := 0, slots := 0, locals := 0 }) (va_Pc [.ref qm, .int (oI o), .int (nI i), .int (nI j), .int (nI n)] (wB (dC, dI) cl [(cB, .byte), (cI, .int), (cL, .long), (cZ, .boolean), (cC, .char), (cO, .object "java/lang/Object")] sz [(qm, .inr (13, [f0, f1, f2, f3, f4, f5, f6, f7, f8, f9, f10, f11, f12, f13, f14, f15, f16, f17, f18, f19, f20, f21, f22, f23, f24, f25, f26, f27, f28, f29, f30, f31, f32, f33, f34, f35, f36, f37, f38, f39, f40, f41, f42, f43, f44, f45, f46, f47, f48, f49, f50, f51, f52, f53, f54, f55, f56, f57, f58, f59, f60, f61, f62, f63, f64, f65, f66, f67, f68, f69, f70]))])) (va_Qi (fun (r : Int32) (u : Unit) => r = nI (m_bits o i j n)) (fun _ t => wA (dC, dI) cl [(cB, .byte), (cI, .int), (cL, .long), (cZ, .boolean), (cC, .char), (cO, .object "java/lang/Object")] (va_A [(qm, .inr (13, [f0, f1, f2, f3, f4, f5, f6, f7, f8, f9, f10, f11, f12, f13, f14, f15, f16, f17, f18, f19, f20, f21, f22, f23, f24, f25, f26, f27, f28, f29, f30, f31, f32, f33, f34, f35, f36, f37, f38, f39, f40, f41, f42, f43, f44, f45, f46, f47, f48, f49, f50, f51, f52, f53, f54, f55, f56, f57, f58, f59, f60, f61, f62, f63, f64, f65, f66, f67, f68, f69, f70]))] sz) [(qm, .inr (13, [f0, f1, f2, f3, f4, f5, f6, f7, f8, f9, f10, f11, f12, f13, f14, f15, f16, f17, f18, f19, f20, f21, f22, f23, f24, f25, f26, f27, f28, f29, f30, f31, f32, f33, f34, f35, f36, f37, f38, f39, f40, f41, f42, f43, f44, f45, f46, f47, f48, f49, f50, f51, f52, f53, f54, f55, f56, f57, f58, f59, f60, f61, f62, f63, f64, f65, f66, f67, f68, f69, f70]))] t) (va_A [(qm, .inr (13, [f0, f1, f2, f3, f4, f5, f6, f7, f8, f9, f10, f11, f12, f13, f14, f15, f16, f17, f18, f19, f20, f21, f22, f23, f24, f25, f26, f27, f28, f29, f30, f31, f32, f33, f34, f35, f36, f37, f38, f39, f40, f41, f42, f43, f44, f45, f46, f47, f48, f49, f50, f51, f52, f53, f54, f55, f56, f57, f58, f59, f60, f61, f62, f63, f64, f65, f66, f67, f68, f69, f70]))] sz)) 0 0 (va_A [(qm, .inr (13, [f0, f1, f2, f3, f4, f5, f6, f7, f8, f9, f10, f11, f12, f13, f14, f15, f16, f17, f18, f19, f20, f21, f22, f23, f24, f25, f26, f27, f28, f29, f30, f31, f32, f33, f34, f35, f36, f37, f38, f39, f40, f41, f42, f43, f44, f45, f46, f47, f48, f49, f50, f51, f52, f53, f54, f55, f56, f57, f58, f59, f60, f61, f62, f63, f64, f65, f66, f67, f68, f69, f70]))] sz) := by
  refine Met.ofW (cc := b_Model_bitsOf) (maxL := 5) (ret := (some ClassFile.FieldType.int)) (by decide) rfl ?_
  intro p e s m args below meth c s₁ B hml hv
  obtain ⟨rfl, hsz, hP, hK, hD0, hF⟩ := hv
  have hx := B.exec
  have hb := B.bytes
  have hr := B.returns
  have hts := atoms_spec (ws := w_Model_bitsOf) B.pre
  have hts : ∀ w ∈ tb, w.before _ s = true := fun w h => hts w (List.mem_cons_of_mem _ h)
  have hown : s.vm.findClass R_Model = some m.cls := findClass_of_methodNamed B.named
  have hlocks := B.notSynchronized
  subst hsz
  have hD := hD0.self (sz := s.heap.size)
  generalize hAe : va_A [(qm, .inr (13, [f0, f1, f2, f3, f4, f5, f6, f7, f8, f9, f10, f11, f12, f13, f14, f15, f16, f17, f18, f19, f20, f21, f22, f23, f24, f25, f26, f27, f28, f29, f30, f31, f32, f33, f34, f35, f36, f37, f38, f39, f40, f41, f42, f43, f44, f45, f46, f47, f48, f49, f50, f51, f52, f53, f54, f55, f56, f57, f58, f59, f60, f61, f62, f63, f64, f65, f66, f67, f68, f69, f70]))] s.heap.size = A at hD hF ⊢
  have hA : ∀ q : Nat, s.heap.size ≤ q → A q := fun q h => by rw [← hAe]; exact Or.inr h
  have hS : va_S A s.heap s.heap [] := va_S.rf
  have hP : va_P (dC, dI) cl [(qm, .inr (13, [f0, f1, f2, f3, f4, f5, f6, f7, f8, f9, f10, f11, f12, f13, f14, f15, f16, f17, f18, f19, f20, f21, f22, f23, f24, f25, f26, f27, f28, f29, f30, f31, f32, f33, f34, f35, f36, f37, f38, f39, f40, f41, f42, f43, f44, f45, f46, f47, f48, f49, f50, f51, f52, f53, f54, f55, f56, f57, f58, f59, f60, f61, f62, f63, f64, f65, f66, f67, f68, f69, f70]))] s.heap := hP
  have hl := lv_entry ([.ref qm, .int (oI o), .int (nI i), .int (nI j), .int (nI n)]) (n := 5) (Nat.le_of_ble_eq_true rfl)
  rw [lg_entry_eq]
  generalize (lg_sl ([.ref qm, .int (oI o), .int (nI i), .int (nI j), .int (nI n)]) ++ List.replicate (5 - (lg_sl ([.ref qm, .int (oI o), .int (nI i), .int (nI j), .int (nI n)])).length) Slot.unset).toArray = ls at hl ⊢
  have hl : lv_has ls 5 [(0, .ref qm), (1, .int (oI o)), (2, .int (nI i)), (3, .int (nI j)), (4, .int (nI n))] := hl
  refine lv_iload_n hx hb d_Model_bitsOf_0 rfl (lv_at hl 1 rfl) ?_
  refine lv_iconst (v := (-1)) hx hb d_Model_bitsOf_1 (by decide) ?_
  refine nv_oicmp_ne (tgt := 10) hx hb ho d_Model_bitsOf_2 (by decide) (fun c_1 => ?_) (fun c_1 => ?_)
  · refine lv_iload_n hx hb d_Model_bitsOf_10 rfl (lv_at hl 3 rfl) ?_
    refine lv_iload_n hx hb d_Model_bitsOf_11 rfl (lv_at hl 2 rfl) ?_
    refine nv_isub hx hb (by omega) d_Model_bitsOf_12 ?_
    refine lv_iconst (v := nI 1) hx hb d_Model_bitsOf_13 (by decide) ?_
    refine nv_iadd hx hb d_Model_bitsOf_14 ?_
    exact wr_i hx hb hr hlocks () (congrArg nI (by unfold m_bits; first | rw [if_pos (by omega)] | rw [if_neg (by omega)] | rw [if_pos c_1] | rw [if_neg c_1])) hK hP hD hS d_Model_bitsOf_15
  · refine lv_iload hx hb d_Model_bitsOf_5 (lv_at hl 4 rfl) ?_
    refine lv_goto (tgt := 15) hx hb d_Model_bitsOf_7 (by decide) ?_
    exact wr_i hx hb hr hlocks () (congrArg nI (by unfold m_bits; first | rw [if_pos (by omega)] | rw [if_neg (by omega)] | rw [if_pos c_1] | rw [if_neg c_1])) hK hP hD hS d_Model_bitsOf_15
theorem d_Model_pinPlace_0 : decode b_Model_pinPlace 0 = .ok (.iconst 0, 1) := by decide +kernel
theorem d_Model_pinPlace_1 : decode b_Model_pinPlace 1 = .ok (.istore_n 3, 1) := by decide +kernel
theorem d_Model_pinPlace_2 : decode b_Model_pinPlace 2 = .ok (.aload_n 0, 1) := by decide +kernel
theorem d_Model_pinPlace_3 : decode b_Model_pinPlace 3 = .ok (.getfield 36, 3) := by decide +kernel
theorem d_Model_pinPlace_6 : decode b_Model_pinPlace 6 = .ok (.iload_n 1, 1) := by decide +kernel
theorem d_Model_pinPlace_7 : decode b_Model_pinPlace 7 = .ok (.iaload, 1) := by decide +kernel
theorem d_Model_pinPlace_8 : decode b_Model_pinPlace 8 = .ok (.istore 4, 2) := by decide +kernel
theorem d_Model_pinPlace_10 : decode b_Model_pinPlace 10 = .ok (.iload 4, 2) := by decide +kernel
theorem d_Model_pinPlace_12 : decode b_Model_pinPlace 12 = .ok (.iload_n 2, 1) := by decide +kernel
theorem d_Model_pinPlace_13 : decode b_Model_pinPlace 13 = .ok (.if_icmp .ge 19, 3) := by decide +kernel
theorem d_Model_pinPlace_16 : decode b_Model_pinPlace 16 = .ok (.iload_n 3, 1) := by decide +kernel
theorem d_Model_pinPlace_17 : decode b_Model_pinPlace 17 = .ok (.aload_n 0, 1) := by decide +kernel
theorem d_Model_pinPlace_18 : decode b_Model_pinPlace 18 = .ok (.getfield 46, 3) := by decide +kernel
theorem d_Model_pinPlace_21 : decode b_Model_pinPlace 21 = .ok (.iload 4, 2) := by decide +kernel
theorem d_Model_pinPlace_23 : decode b_Model_pinPlace 23 = .ok (.iaload, 1) := by decide +kernel
theorem d_Model_pinPlace_24 : decode b_Model_pinPlace 24 = .ok (.iadd, 1) := by decide +kernel
theorem d_Model_pinPlace_25 : decode b_Model_pinPlace 25 = .ok (.istore_n 3, 1) := by decide +kernel
theorem d_Model_pinPlace_26 : decode b_Model_pinPlace 26 = .ok (.iinc 4 1, 3) := by decide +kernel
theorem d_Model_pinPlace_29 : decode b_Model_pinPlace 29 = .ok (.goto (-19), 3) := by decide +kernel
theorem d_Model_pinPlace_32 : decode b_Model_pinPlace 32 = .ok (.iload_n 3, 1) := by decide +kernel
theorem d_Model_pinPlace_33 : decode b_Model_pinPlace 33 = .ok (.ireturn, 1) := by decide +kernel
set_option maxHeartbeats 4000000 in
set_option maxRecDepth 100000 in
theorem lp_Model_pinPlace {p : Program} {l : Launch} {e : Env} {s : State} {m : MethodId} {args : Array Value} {below : List Frame} {meth : Method} {c : Code} {Q : State → Prop} {A : Nat → Prop} {dC : Nat → ClassId} {dI : Nat → Nat → Nat} {cB cI cL cZ cC cO : ClassId} {qm q_pinFirst q_pinWidth : Nat}{f0 f1 f2 f3 f4 f5 f6 f7 f8 f9 f10 f11 f12 f13 f14 f15 f16 f18 f19 f20 f22 f23 f24 f25 f26 f27 f28 f29 f30 f31 f32 f33 f34 f35 f36 f37 f38 f39 f40 f41 f42 f43 f44 f45 f46 f47 f48 f49 f50 f51 f52 f53 f54 f55 f56 f57 f58 f59 f60 f61 f62 f63 f64 f65 f66 f67 f68 f69 f70 : Value} {pf pw_ : Nat → Nat} {ch pin r : Nat} (hp : pin ≤ 200) (hx : p.tables.exec = Jvm.exec) (hb : c.code = b_Model_pinPlace) (hml : c.maxLocals = 5) (hown : s.vm.findClass R_Model = some m.cls) (hts : ∀ w ∈ tb, w.before args s = true) (hA : ∀ q, s.heap.size ≤ q → A q) (hF : stF A s) (hK : va_K (dC, dI) cl [(cB, .byte), (cI, .int), (cL, .long), (cZ, .boolean), (cC, .char), (cO, .object "java/lang/Object")] s)
    (kx : ∀  (H : Heap) (locs : List Loc) (ls : Array Slot), va_P (dC, dI) cl [(qm, .inr (13, [f0, f1, f2, f3, f4, f5, f6, f7, f8, f9, f10, f11, f12, f13, f14, f15, f16, .ref q_pinFirst, f18, f19, f20, .ref q_pinWidth, f22, f23, f24, f25, f26, f27, f28, f29, f30, f31, f32, f33, f34, f35, f36, f37, f38, f39, f40, f41, f42, f43, f44, f45, f46, f47, f48, f49, f50, f51, f52, f53, f54, f55, f56, f57, f58, f59, f60, f61, f62, f63, f64, f65, f66, f67, f68, f69, f70])), (q_pinFirst, .inl (cI, 18, .inl (nF pf))), (q_pinWidth, .inl (cI, 200, .inl (nF pw_)))] H → va_D A [(qm, .inr (13, [f0, f1, f2, f3, f4, f5, f6, f7, f8, f9, f10, f11, f12, f13, f14, f15, f16, .ref q_pinFirst, f18, f19, f20, .ref q_pinWidth, f22, f23, f24, f25, f26, f27, f28, f29, f30, f31, f32, f33, f34, f35, f36, f37, f38, f39, f40, f41, f42, f43, f44, f45, f46, f47, f48, f49, f50, f51, f52, f53, f54, f55, f56, f57, f58, f59, f60, f61, f62, f63, f64, f65, f66, f67, f68, f69, f70])), (q_pinFirst, .inl (cI, 18, .inl (nF pf))), (q_pinWidth, .inl (cI, 200, .inl (nF pw_)))] → va_S A s.heap H locs → lv_has ls 5 [(3, .int (nI r)), (0, .ref qm), (1, .int (nI ch)), (2, .int (nI pin))] → W p l e (headSpec w_Model_pinPlace { frames := 0, cells := 0, slots := 0, locals := 0 }).room s m args below meth c H locs 0 0 Q (F0 m 32 ls [])) :
    ∀ (k : Nat) (i n : Nat) (H : Heap) (locs : List Loc) (ls : Array Slot), 201 < i + k → i ≤ 201 → m_psum pw_ (pin - i) i n = r → va_P (dC, dI) cl [(qm, .inr (13, [f0, f1, f2, f3, f4, f5, f6, f7, f8, f9, f10, f11, f12, f13, f14, f15, f16, .ref q_pinFirst, f18, f19, f20, .ref q_pinWidth, f22, f23, f24, f25, f26, f27, f28, f29, f30, f31, f32, f33, f34, f35, f36, f37, f38, f39, f40, f41, f42, f43, f44, f45, f46, f47, f48, f49, f50, f51, f52, f53, f54, f55, f56, f57, f58, f59, f60, f61, f62, f63, f64, f65, f66, f67, f68, f69, f70])), (q_pinFirst, .inl (cI, 18, .inl (nF pf))), (q_pinWidth, .inl (cI, 200, .inl (nF pw_)))] H → va_D A [(qm, .inr (13, [f0, f1, f2, f3, f4, f5, f6, f7, f8, f9, f10, f11, f12, f13, f14, f15, f16, .ref q_pinFirst, f18, f19, f20, .ref q_pinWidth, f22, f23, f24, f25, f26, f27, f28, f29, f30, f31, f32, f33, f34, f35, f36, f37, f38, f39, f40, f41, f42, f43, f44, f45, f46, f47, f48, f49, f50, f51, f52, f53, f54, f55, f56, f57, f58, f59, f60, f61, f62, f63, f64, f65, f66, f67, f68, f69, f70])), (q_pinFirst, .inl (cI, 18, .inl (nF pf))), (q_pinWidth, .inl (cI, 200, .inl (nF pw_)))] → va_S A s.heap H locs → lv_has ls 5 [(4, .int (nI i)), (3, .int (nI n)), (0, .ref qm), (1, .int (nI ch)), (2, .int (nI pin))] → W p l e (headSpec w_Model_pinPlace { frames := 0, cells := 0, slots := 0, locals := 0 }).room s m args below meth c H locs 0 0 Q (F0 m 10 ls []) := by
  intro k
  induction k with
  | zero =>
    intro i n H locs ls hk hi hr hP hD hS hl
    exfalso; omega
  | succ k ih =>
    intro i n H locs ls hk hi hr hP hD hS hl
    refine lv_iload hx hb d_Model_pinPlace_10 (lv_at hl 0 rfl) ?_
    refine lv_iload_n hx hb d_Model_pinPlace_12 rfl (lv_at hl 4 rfl) ?_
    refine nv_icmp_ge (tgt := 32) hx hb (by omega) (by omega) d_Model_pinPlace_13 (by decide) (fun c_1 => ?_) (fun c_1 => ?_)
    · have hri : n = r := by rw [← hr, m_psum_u, if_neg (by omega)]
      subst hri
      exact kx H locs ls hP hD hS (lv_sub hl [1, 2, 3, 4] rfl)
    · refine lv_iload_n hx hb d_Model_pinPlace_16 rfl (lv_at hl 1 rfl) ?_
      refine lv_aload_n hx hb d_Model_pinPlace_17 rfl (lv_at hl 2 rfl) ?_
      refine va_get (D := (dC, dI)) (ci := 13) (v := .ref q_pinWidth) (C := R_Model) (T := F_Model) (N := 71) hx hb hts i_Model hown hK hP 0 rfl rfl 21 (by decide) (hts _ k_895) (fun _ h9 => h9) rfl d_Model_pinPlace_18 ?_
      refine lv_iload hx hb d_Model_pinPlace_21 (lv_at hl 0 rfl) ?_
      refine nv_iald hx hb hK hP 2 1 rfl rfl (by omega) (by decide) d_Model_pinPlace_23 ?_
      refine nv_iadd hx hb d_Model_pinPlace_24 ?_
      refine lv_istore_n (lv' := [(3, .int (nI (n + (pw_ i)))), (4, .int (nI i)), (0, .ref qm), (1, .int (nI ch)), (2, .int (nI pin))]) hx hb d_Model_pinPlace_25 rfl hl (by decide) rfl (fun ls hl => ?_)
      refine lv_iinc (v := nI (i + 1)) (lv' := [(4, .int (nI (i + 1))), (3, .int (nI (n + (pw_ i)))), (0, .ref qm), (1, .int (nI ch)), (2, .int (nI pin))]) hx hb d_Model_pinPlace_26 hl (k := 1) rfl (nI_1 _) (by decide) rfl (fun ls hl => ?_)
      refine lv_goto (tgt := 10) hx hb d_Model_pinPlace_29 (by decide) ?_
      exact ih (i + 1) (n + pw_ i) H locs ls (by omega) (by omega) (by rw [← hr, m_psum_u pw_ pin i, if_pos (by omega)]) hP hD hS (lv_sub hl [0, 1, 2, 3, 4] rfl)
set_option maxHeartbeats 4000000 in
set_option maxRecDepth 100000 in
/-- pinPlace(ch, pin) -/
theorem c_Model_pinPlace (l : Launch) (dC : Nat → ClassId) (dI : Nat → Nat → Nat) (cB cI cL cZ cC cO : ClassId) {qm q_pinFirst q_pinWidth : Nat}{f0 f1 f2 f3 f4 f5 f6 f7 f8 f9 f10 f11 f12 f13 f14 f15 f16 f18 f19 f20 f22 f23 f24 f25 f26 f27 f28 f29 f30 f31 f32 f33 f34 f35 f36 f37 f38 f39 f40 f41 f42 f43 f44 f45 f46 f47 f48 f49 f50 f51 f52 f53 f54 f55 f56 f57 f58 f59 f60 f61 f62 f63 f64 f65 f66 f67 f68 f69 f70 : Value} (pf pw_ : Nat → Nat) (ch pin : Nat) (sz : Nat) (hc : ch < 18) (hp : pin ≤ 200) (hf : pf ch ≤ 200) : Met l y_Model_pinPlace w_Model_pinPlace ({ frames := 0, cells := 0, slots := 0, locals := 0 }) (va_Pc [.ref qm, .int (nI ch), .int (nI pin)] (wB (dC, dI) cl [(cB, .byte), (cI, .int), (cL, .long), (cZ, .boolean), (cC, .char), (cO, .object "java/lang/Object")] sz [(qm, .inr (13, [f0, f1, f2, f3, f4, f5, f6, f7, f8, f9, f10, f11, f12, f13, f14, f15, f16, .ref q_pinFirst, f18, f19, f20, .ref q_pinWidth, f22, f23, f24, f25, f26, f27, f28, f29, f30, f31, f32, f33, f34, f35, f36, f37, f38, f39, f40, f41, f42, f43, f44, f45, f46, f47, f48, f49, f50, f51, f52, f53, f54, f55, f56, f57, f58, f59, f60, f61, f62, f63, f64, f65, f66, f67, f68, f69, f70])), (q_pinFirst, .inl (cI, 18, .inl (nF pf))), (q_pinWidth, .inl (cI, 200, .inl (nF pw_)))])) (va_Qi (fun (r : Int32) (u : Unit) => r = nI (m_psum pw_ (pin - pf ch) (pf ch) 0)) (fun _ t => wA (dC, dI) cl [(cB, .byte), (cI, .int), (cL, .long), (cZ, .boolean), (cC, .char), (cO, .object "java/lang/Object")] (va_A [(qm, .inr (13, [f0, f1, f2, f3, f4, f5, f6, f7, f8, f9, f10, f11, f12, f13, f14, f15, f16, .ref q_pinFirst, f18, f19, f20, .ref q_pinWidth, f22, f23, f24, f25, f26, f27, f28, f29, f30, f31, f32, f33, f34, f35, f36, f37, f38, f39, f40, f41, f42, f43, f44, f45, f46, f47, f48, f49, f50, f51, f52, f53, f54, f55, f56, f57, f58, f59, f60, f61, f62, f63, f64, f65, f66, f67, f68, f69, f70])), (q_pinFirst, .inl (cI, 18, .inl (nF pf))), (q_pinWidth, .inl (cI, 200, .inl (nF pw_)))] sz) [(qm, .inr (13, [f0, f1, f2, f3, f4, f5, f6, f7, f8, f9, f10, f11, f12, f13, f14, f15, f16, .ref q_pinFirst, f18, f19, f20, .ref q_pinWidth, f22, f23, f24, f25, f26, f27, f28, f29, f30, f31, f32, f33, f34, f35, f36, f37, f38, f39, f40, f41, f42, f43, f44, f45, f46, f47, f48, f49, f50, f51, f52, f53, f54, f55, f56, f57, f58, f59, f60, f61, f62, f63, f64, f65, f66, f67, f68, f69, f70])), (q_pinFirst, .inl (cI, 18, .inl (nF pf))), (q_pinWidth, .inl (cI, 200, .inl (nF pw_)))] t) (va_A [(qm, .inr (13, [f0, f1, f2, f3, f4, f5, f6, f7, f8, f9, f10, f11, f12, f13, f14, f15, f16, .ref q_pinFirst, f18, f19, f20, .ref q_pinWidth, f22, f23, f24, f25, f26, f27, f28, f29, f30, f31, f32, f33, f34, f35, f36, f37, f38, f39, f40, f41, f42, f43, f44, f45, f46, f47, f48, f49, f50, f51, f52, f53, f54, f55, f56, f57, f58, f59, f60, f61, f62, f63, f64, f65, f66, f67, f68, f69, f70])), (q_pinFirst, .inl (cI, 18, .inl (nF pf))), (q_pinWidth, .inl (cI, 200, .inl (nF pw_)))] sz)) 0 0 (va_A [(qm, .inr (13, [f0, f1, f2, f3, f4, f5, f6, f7, f8, f9, f10, f11, f12, f13, f14, f15, f16, .ref q_pinFirst, f18, f19, f20, .ref q_pinWidth, f22, f23, f24, f25, f26, f27, f28, f29, f30, f31, f32, f33, f34, f35, f36, f37, f38, f39, f40, f41, f42, f43, f44, f45, f46, f47, f48, f49, f50, f51, f52, f53, f54, f55, f56, f57, f58, f59, f60, f61, f62, f63, f64, f65, f66, f67, f68, f69, f70])), (q_pinFirst, .inl (cI, 18, .inl (nF pf))), (q_pinWidth, .inl (cI, 200, .inl (nF pw_)))] sz) := by
  refine Met.ofW (cc := b_Model_pinPlace) (maxL := 5) (ret := (some ClassFile.FieldType.int)) (by decide) rfl ?_
  intro p e s m args below meth c s₁ B hml hv
  obtain ⟨rfl, hsz, hP, hK, hD0, hF⟩ := hv
  have hx := B.exec
  have hb := B.bytes
  have hr := B.returns
  have hts := atoms_spec (ws := w_Model_pinPlace) B.pre
  have hts : ∀ w ∈ tb, w.before _ s = true := fun w h => hts w (List.mem_cons_of_mem _ h)
  have hown : s.vm.findClass R_Model = some m.cls := findClass_of_methodNamed B.named
  have hlocks := B.notSynchronized
  subst hsz
  have hD := hD0.self (sz := s.heap.size)
  generalize hAe : va_A [(qm, .inr (13, [f0, f1, f2, f3, f4, f5, f6, f7, f8, f9, f10, f11, f12, f13, f14, f15, f16, .ref q_pinFirst, f18, f19, f20, .ref q_pinWidth, f22, f23, f24, f25, f26, f27, f28, f29, f30, f31, f32, f33, f34, f35, f36, f37, f38, f39, f40, f41, f42, f43, f44, f45, f46, f47, f48, f49, f50, f51, f52, f53, f54, f55, f56, f57, f58, f59, f60, f61, f62, f63, f64, f65, f66, f67, f68, f69, f70])), (q_pinFirst, .inl (cI, 18, .inl (nF pf))), (q_pinWidth, .inl (cI, 200, .inl (nF pw_)))] s.heap.size = A at hD hF ⊢
  have hA : ∀ q : Nat, s.heap.size ≤ q → A q := fun q h => by rw [← hAe]; exact Or.inr h
  have hS : va_S A s.heap s.heap [] := va_S.rf
  have hP : va_P (dC, dI) cl [(qm, .inr (13, [f0, f1, f2, f3, f4, f5, f6, f7, f8, f9, f10, f11, f12, f13, f14, f15, f16, .ref q_pinFirst, f18, f19, f20, .ref q_pinWidth, f22, f23, f24, f25, f26, f27, f28, f29, f30, f31, f32, f33, f34, f35, f36, f37, f38, f39, f40, f41, f42, f43, f44, f45, f46, f47, f48, f49, f50, f51, f52, f53, f54, f55, f56, f57, f58, f59, f60, f61, f62, f63, f64, f65, f66, f67, f68, f69, f70])), (q_pinFirst, .inl (cI, 18, .inl (nF pf))), (q_pinWidth, .inl (cI, 200, .inl (nF pw_)))] s.heap := hP
  have hl := lv_entry ([.ref qm, .int (nI ch), .int (nI pin)]) (n := 5) (Nat.le_of_ble_eq_true rfl)
  rw [lg_entry_eq]
  generalize (lg_sl ([.ref qm, .int (nI ch), .int (nI pin)]) ++ List.replicate (5 - (lg_sl ([.ref qm, .int (nI ch), .int (nI pin)])).length) Slot.unset).toArray = ls at hl ⊢
  have hl : lv_has ls 5 [(0, .ref qm), (1, .int (nI ch)), (2, .int (nI pin))] := hl
  refine lv_iconst (v := nI 0) hx hb d_Model_pinPlace_0 (by decide) ?_
  refine lv_istore_n (lv' := [(3, .int (nI 0)), (0, .ref qm), (1, .int (nI ch)), (2, .int (nI pin))]) hx hb d_Model_pinPlace_1 rfl hl (by decide) rfl (fun ls hl => ?_)
  refine lv_aload_n hx hb d_Model_pinPlace_2 rfl (lv_at hl 1 rfl) ?_
  refine va_get (D := (dC, dI)) (ci := 13) (v := .ref q_pinFirst) (C := R_Model) (T := F_Model) (N := 71) hx hb hts i_Model hown hK hP 0 rfl rfl 17 (by decide) (hts _ k_891) (fun _ h9 => h9) rfl d_Model_pinPlace_3 ?_
  refine lv_iload_n hx hb d_Model_pinPlace_6 rfl (lv_at hl 2 rfl) ?_
  refine nv_iald hx hb hK hP 1 1 rfl rfl (by omega) (by decide) d_Model_pinPlace_7 ?_
  refine lv_istore (lv' := [(4, .int (nI (pf ch))), (3, .int (nI 0)), (0, .ref qm), (1, .int (nI ch)), (2, .int (nI pin))]) hx hb d_Model_pinPlace_8 hl (by decide) rfl (fun ls hl => ?_)
  refine lp_Model_pinPlace (r := m_psum pw_ (pin - pf ch) (pf ch) 0) hp hx hb hml hown hts hA hF hK (fun H locs ls hP hD hS hl => ?_) 202 (pf ch) 0 _ _ ls (by omega) (by omega) rfl hP hD hS (lv_sub hl [0, 1, 2, 3, 4] rfl)
  refine lv_iload_n hx hb d_Model_pinPlace_32 rfl (lv_at hl 0 rfl) ?_
  exact wr_i hx hb hr hlocks () rfl hK hP hD hS d_Model_pinPlace_33
def sp_note (nb t : Nat) (P : PS) : PS := if 0 < P.1 5 ∧ (P.1 6 < P.2.2.1 8 t ∨ (P.1 6 = P.2.2.1 8 t ∧ P.1 5 ≤ nb)) then P else zs (zs P 5 nb) 6 (P.2.2.1 8 t)
theorem d_Model_note_0 : decode b_Model_note 0 = .ok (.aload_n 0, 1) := by decide +kernel
theorem d_Model_note_1 : decode b_Model_note 1 = .ok (.getfield 228, 3) := by decide +kernel
theorem d_Model_note_4 : decode b_Model_note 4 = .ok (.ifCond .le 38, 3) := by decide +kernel
theorem d_Model_note_7 : decode b_Model_note 7 = .ok (.aload_n 0, 1) := by decide +kernel
theorem d_Model_note_8 : decode b_Model_note 8 = .ok (.getfield 231, 3) := by decide +kernel
theorem d_Model_note_11 : decode b_Model_note 11 = .ok (.aload_n 0, 1) := by decide +kernel
theorem d_Model_note_12 : decode b_Model_note 12 = .ok (.getfield 24, 3) := by decide +kernel
theorem d_Model_note_15 : decode b_Model_note 15 = .ok (.iload_n 2, 1) := by decide +kernel
theorem d_Model_note_16 : decode b_Model_note 16 = .ok (.iaload, 1) := by decide +kernel
theorem d_Model_note_17 : decode b_Model_note 17 = .ok (.if_icmp .lt 24, 3) := by decide +kernel
theorem d_Model_note_20 : decode b_Model_note 20 = .ok (.aload_n 0, 1) := by decide +kernel
theorem d_Model_note_21 : decode b_Model_note 21 = .ok (.getfield 231, 3) := by decide +kernel
theorem d_Model_note_24 : decode b_Model_note 24 = .ok (.aload_n 0, 1) := by decide +kernel
theorem d_Model_note_25 : decode b_Model_note 25 = .ok (.getfield 24, 3) := by decide +kernel
theorem d_Model_note_28 : decode b_Model_note 28 = .ok (.iload_n 2, 1) := by decide +kernel
theorem d_Model_note_29 : decode b_Model_note 29 = .ok (.iaload, 1) := by decide +kernel
theorem d_Model_note_30 : decode b_Model_note 30 = .ok (.if_icmp .ne 12, 3) := by decide +kernel
theorem d_Model_note_33 : decode b_Model_note 33 = .ok (.aload_n 0, 1) := by decide +kernel
theorem d_Model_note_34 : decode b_Model_note 34 = .ok (.getfield 228, 3) := by decide +kernel
theorem d_Model_note_37 : decode b_Model_note 37 = .ok (.iload_n 1, 1) := by decide +kernel
theorem d_Model_note_38 : decode b_Model_note 38 = .ok (.if_icmp .gt 4, 3) := by decide +kernel
theorem d_Model_note_41 : decode b_Model_note 41 = .ok (.return_, 1) := by decide +kernel
theorem d_Model_note_42 : decode b_Model_note 42 = .ok (.aload_n 0, 1) := by decide +kernel
theorem d_Model_note_43 : decode b_Model_note 43 = .ok (.iload_n 1, 1) := by decide +kernel
theorem d_Model_note_44 : decode b_Model_note 44 = .ok (.putfield 228, 3) := by decide +kernel
theorem d_Model_note_47 : decode b_Model_note 47 = .ok (.aload_n 0, 1) := by decide +kernel
theorem d_Model_note_48 : decode b_Model_note 48 = .ok (.aload_n 0, 1) := by decide +kernel
theorem d_Model_note_49 : decode b_Model_note 49 = .ok (.getfield 24, 3) := by decide +kernel
theorem d_Model_note_52 : decode b_Model_note 52 = .ok (.iload_n 2, 1) := by decide +kernel
theorem d_Model_note_53 : decode b_Model_note 53 = .ok (.iaload, 1) := by decide +kernel
theorem d_Model_note_54 : decode b_Model_note 54 = .ok (.putfield 231, 3) := by decide +kernel
theorem d_Model_note_57 : decode b_Model_note 57 = .ok (.return_, 1) := by decide +kernel
set_option maxHeartbeats 4000000 in
set_option maxRecDepth 100000 in
/-- note(nb, t) -/
theorem c_Model_note (l : Launch) (dC : Nat → ClassId) (dI : Nat → Nat → Nat) (cB cI cL cZ cC cO : ClassId) (q : Nat → Nat) (f : Nat → Value) (P : PS) (ft tv : Nat → Int32) (nb t : Nat) (sz : Nat) (h5 : P.1 5 ≤ 6) (h6 : P.1 6 < 2 ^ 31) (h8 : P.2.2.1 8 t < 2 ^ 31) (hnb : nb < 2 ^ 31) (ht : t < 1002) : Met l y_Model_note w_Model_note ({ frames := 0, cells := 0, slots := 0, locals := 0 }) (va_Pc [.ref (q 100), .int (nI nb), .int (nI t)] (wB (dC, dI) cl [(cB, .byte), (cI, .int), (cL, .long), (cZ, .boolean), (cC, .char), (cO, .object "java/lang/Object")] sz (PW cI cZ q f P ft tv))) (va_Qv (fun (u : PS) => u = sp_note nb t P) (fun u t => wA (dC, dI) cl [(cB, .byte), (cI, .int), (cL, .long), (cZ, .boolean), (cC, .char), (cO, .object "java/lang/Object")] (va_A (PW cI cZ q f P ft tv) sz) (PW cI cZ q f u ft tv) t) (va_A (PW cI cZ q f P ft tv) sz)) 0 0 (va_A (PW cI cZ q f P ft tv) sz) := by
  refine Met.ofW (cc := b_Model_note) (maxL := 3) (ret := none) (by decide) rfl ?_
  intro p e s m args below meth c s₁ B hml hv
  obtain ⟨rfl, hsz, hP, hK, hD0, hF⟩ := hv
  have hx := B.exec
  have hb := B.bytes
  have hr := B.returns
  have hts := atoms_spec (ws := w_Model_note) B.pre
  have hts : ∀ w ∈ tb, w.before _ s = true := fun w h => hts w (List.mem_cons_of_mem _ h)
  have hown : s.vm.findClass R_Model = some m.cls := findClass_of_methodNamed B.named
  have hlocks := B.notSynchronized
  subst hsz
  have hD := hD0.self (sz := s.heap.size)
  generalize hAe : va_A (PW cI cZ q f P ft tv) s.heap.size = A at hD hF ⊢
  have hA : ∀ q : Nat, s.heap.size ≤ q → A q := fun q h => by rw [← hAe]; exact Or.inr h
  have hS : va_S A s.heap s.heap [] := va_S.rf
  have hP : va_P (dC, dI) cl (PW cI cZ q f P ft tv) s.heap := hP
  have hl := lv_entry ([.ref (q 100), .int (nI nb), .int (nI t)]) (n := 3) (Nat.le_of_ble_eq_true rfl)
  rw [lg_entry_eq]
  generalize (lg_sl ([.ref (q 100), .int (nI nb), .int (nI t)]) ++ List.replicate (3 - (lg_sl ([.ref (q 100), .int (nI nb), .int (nI t)])).length) Slot.unset).toArray = ls at hl ⊢
  have hl : lv_has ls 3 [(0, .ref (q 100)), (1, .int (nI nb)), (2, .int (nI t))] := hl
  refine lv_aload_n hx hb d_Model_note_0 rfl (lv_at hl 0 rfl) ?_
  refine va_get (D := (dC, dI)) (ci := 13) (v := .int (nI (P.1 5))) (C := R_Model) (T := F_Model) (N := 71) hx hb hts i_Model hown hK hP 0 rfl rfl 5 (by decide) (hts _ k_879) (fun _ h9 => h9) rfl d_Model_note_1 ?_
  refine nv_if_le (tgt := 42) hx hb (by omega) d_Model_note_4 (by decide) (fun c_1 => ?_) (fun c_1 => ?_)
  · refine lv_aload_n hx hb d_Model_note_42 rfl (lv_at hl 0 rfl) ?_
    refine lv_iload_n hx hb d_Model_note_43 rfl (lv_at hl 1 rfl) ?_
    refine va_put (D := (dC, dI)) (ci := 13) (v := .int (nI nb)) (ty := .int) (C := R_Model) (T := F_Model) (N := 71) hx hb hts i_Model t_Model t_Model_ok n_Model hown hK hP hD hS 0 rfl rfl 5 (by decide) (hts _ k_879) (fun _ h9 => h9) rfl (by decide +kernel) rfl rfl (Nat.le_of_ble_eq_true rfl) d_Model_note_44 (fun H locs hP hD hS => ?_)
    have hP : va_P (dC, dI) cl [(q 100, .inr (13, [f 0, .ref (q 1), f 2, .int (nI (P.1 3)), f 4, .int (nI nb), .int (nI (P.1 6)), .ref (q 7), .ref (q 8), .ref (q 9), .ref (q 10), .int (nI (P.1 11)), .int (nI (P.1 12)), .int (nI (P.1 13)), .int (nI (P.1 14)), .int (nI (P.1 15)), .ref (q 16), .ref (q 17), .int (nI (P.1 18)), .ref (q 19), .ref (q 20), .ref (q 21), .ref (q 22), .ref (q 23), .int (nI (P.1 24)), .ref (q 25), .ref (q 26), .int (nI (P.1 27)), .ref (q 28), .ref (q 29), .ref (q 30), .ref (q 31), .ref (q 32), .ref (q 33), .ref (q 34), .ref (q 35), .ref (q 36), .int (nI (P.1 37)), .ref (q 38), f 39, f 40, .int (oI (P.2.1 41)), .int (nI (P.1 42)), .int (nI (P.1 43)), f 44, f 45, f 46, f 47, f 48, f 49, f 50, f 51, f 52, f 53, f 54, f 55, f 56, f 57, f 58, f 59, f 60, f 61, f 62, f 63, f 64, f 65, f 66, f 67, f 68, f 69, f 70])), (q 1, .inl (cI, 2000, .inl ft)), (q 7, .inl (cI, 1002, .inl (nF (P.2.2.1 7)))), (q 8, .inl (cI, 1002, .inl (nF (P.2.2.1 8)))), (q 9, .inl (cI, 1002, .inl (nF (P.2.2.1 9)))), (q 10, .inl (cI, 1002, .inl tv)), (q 16, .inl (cI, 17, .inl (nF (P.2.2.1 16)))), (q 17, .inl (cI, 18, .inl (nF (P.2.2.1 17)))), (q 19, .inl (cZ, 200, .inl (bF (P.2.2.2.2 19)))), (q 20, .inl (cI, 200, .inl (nF (P.2.2.1 20)))), (q 21, .inl (cI, 200, .inl (nF (P.2.2.1 21)))), (q 22, .inl (cI, 200, .inl (oF (P.2.2.2.1 22)))), (q 23, .inl (cI, 18, .inl (nF (P.2.2.1 23)))), (q 25, .inl (cI, 400, .inl (nF (P.2.2.1 25)))), (q 26, .inl (cI, 401, .inl (nF (P.2.2.1 26)))), (q 28, .inl (cI, 700, .inl (nF (P.2.2.1 28)))), (q 29, .inl (cI, 700, .inl (oF (P.2.2.2.1 29)))), (q 30, .inl (cI, 700, .inl (nF (P.2.2.1 30)))), (q 31, .inl (cI, 700, .inl (nF (P.2.2.1 31)))), (q 32, .inl (cI, 700, .inl (nF (P.2.2.1 32)))), (q 33, .inl (cI, 700, .inl (oF (P.2.2.2.1 33)))), (q 34, .inl (cI, 700, .inl (nF (P.2.2.1 34)))), (q 35, .inl (cI, 700, .inl (nF (P.2.2.1 35)))), (q 36, .inl (cI, 18, .inl (nF (P.2.2.1 36)))), (q 38, .inl (cI, 700, .inl (nF (P.2.2.1 38))))] H := hP
    have hD : va_D A [(q 100, .inr (13, [f 0, .ref (q 1), f 2, .int (nI (P.1 3)), f 4, .int (nI nb), .int (nI (P.1 6)), .ref (q 7), .ref (q 8), .ref (q 9), .ref (q 10), .int (nI (P.1 11)), .int (nI (P.1 12)), .int (nI (P.1 13)), .int (nI (P.1 14)), .int (nI (P.1 15)), .ref (q 16), .ref (q 17), .int (nI (P.1 18)), .ref (q 19), .ref (q 20), .ref (q 21), .ref (q 22), .ref (q 23), .int (nI (P.1 24)), .ref (q 25), .ref (q 26), .int (nI (P.1 27)), .ref (q 28), .ref (q 29), .ref (q 30), .ref (q 31), .ref (q 32), .ref (q 33), .ref (q 34), .ref (q 35), .ref (q 36), .int (nI (P.1 37)), .ref (q 38), f 39, f 40, .int (oI (P.2.1 41)), .int (nI (P.1 42)), .int (nI (P.1 43)), f 44, f 45, f 46, f 47, f 48, f 49, f 50, f 51, f 52, f 53, f 54, f 55, f 56, f 57, f 58, f 59, f 60, f 61, f 62, f 63, f 64, f 65, f 66, f 67, f 68, f 69, f 70])), (q 1, .inl (cI, 2000, .inl ft)), (q 7, .inl (cI, 1002, .inl (nF (P.2.2.1 7)))), (q 8, .inl (cI, 1002, .inl (nF (P.2.2.1 8)))), (q 9, .inl (cI, 1002, .inl (nF (P.2.2.1 9)))), (q 10, .inl (cI, 1002, .inl tv)), (q 16, .inl (cI, 17, .inl (nF (P.2.2.1 16)))), (q 17, .inl (cI, 18, .inl (nF (P.2.2.1 17)))), (q 19, .inl (cZ, 200, .inl (bF (P.2.2.2.2 19)))), (q 20, .inl (cI, 200, .inl (nF (P.2.2.1 20)))), (q 21, .inl (cI, 200, .inl (nF (P.2.2.1 21)))), (q 22, .inl (cI, 200, .inl (oF (P.2.2.2.1 22)))), (q 23, .inl (cI, 18, .inl (nF (P.2.2.1 23)))), (q 25, .inl (cI, 400, .inl (nF (P.2.2.1 25)))), (q 26, .inl (cI, 401, .inl (nF (P.2.2.1 26)))), (q 28, .inl (cI, 700, .inl (nF (P.2.2.1 28)))), (q 29, .inl (cI, 700, .inl (oF (P.2.2.2.1 29)))), (q 30, .inl (cI, 700, .inl (nF (P.2.2.1 30)))), (q 31, .inl (cI, 700, .inl (nF (P.2.2.1 31)))), (q 32, .inl (cI, 700, .inl (nF (P.2.2.1 32)))), (q 33, .inl (cI, 700, .inl (oF (P.2.2.2.1 33)))), (q 34, .inl (cI, 700, .inl (nF (P.2.2.1 34)))), (q 35, .inl (cI, 700, .inl (nF (P.2.2.1 35)))), (q 36, .inl (cI, 18, .inl (nF (P.2.2.1 36)))), (q 38, .inl (cI, 700, .inl (nF (P.2.2.1 38))))] := hD
    refine lv_aload_n hx hb d_Model_note_47 rfl (lv_at hl 0 rfl) ?_
    refine lv_aload_n hx hb d_Model_note_48 rfl (lv_at hl 0 rfl) ?_
    refine va_get (D := (dC, dI)) (ci := 13) (v := .ref (q 8)) (C := R_Model) (T := F_Model) (N := 71) hx hb hts i_Model hown hK hP 0 rfl rfl 8 (by decide) (hts _ k_882) (fun _ h9 => h9) rfl d_Model_note_49 ?_
    refine lv_iload_n hx hb d_Model_note_52 rfl (lv_at hl 2 rfl) ?_
    refine nv_iald hx hb hK hP 3 1 rfl rfl (by omega) (by decide) d_Model_note_53 ?_
    refine va_put (D := (dC, dI)) (ci := 13) (v := .int (nI ((P.2.2.1 8) t))) (ty := .int) (C := R_Model) (T := F_Model) (N := 71) hx hb hts i_Model t_Model t_Model_ok n_Model hown hK hP hD hS 0 rfl rfl 6 (by decide) (hts _ k_880) (fun _ h9 => h9) rfl (by decide +kernel) rfl rfl (Nat.le_of_ble_eq_true rfl) d_Model_note_54 (fun H locs hP hD hS => ?_)
    have hP : va_P (dC, dI) cl [(q 100, .inr (13, [f 0, .ref (q 1), f 2, .int (nI (P.1 3)), f 4, .int (nI nb), .int (nI ((P.2.2.1 8) t)), .ref (q 7), .ref (q 8), .ref (q 9), .ref (q 10), .int (nI (P.1 11)), .int (nI (P.1 12)), .int (nI (P.1 13)), .int (nI (P.1 14)), .int (nI (P.1 15)), .ref (q 16), .ref (q 17), .int (nI (P.1 18)), .ref (q 19), .ref (q 20), .ref (q 21), .ref (q 22), .ref (q 23), .int (nI (P.1 24)), .ref (q 25), .ref (q 26), .int (nI (P.1 27)), .ref (q 28), .ref (q 29), .ref (q 30), .ref (q 31), .ref (q 32), .ref (q 33), .ref (q 34), .ref (q 35), .ref (q 36), .int (nI (P.1 37)), .ref (q 38), f 39, f 40, .int (oI (P.2.1 41)), .int (nI (P.1 42)), .int (nI (P.1 43)), f 44, f 45, f 46, f 47, f 48, f 49, f 50, f 51, f 52, f 53, f 54, f 55, f 56, f 57, f 58, f 59, f 60, f 61, f 62, f 63, f 64, f 65, f 66, f 67, f 68, f 69, f 70])), (q 1, .inl (cI, 2000, .inl ft)), (q 7, .inl (cI, 1002, .inl (nF (P.2.2.1 7)))), (q 8, .inl (cI, 1002, .inl (nF (P.2.2.1 8)))), (q 9, .inl (cI, 1002, .inl (nF (P.2.2.1 9)))), (q 10, .inl (cI, 1002, .inl tv)), (q 16, .inl (cI, 17, .inl (nF (P.2.2.1 16)))), (q 17, .inl (cI, 18, .inl (nF (P.2.2.1 17)))), (q 19, .inl (cZ, 200, .inl (bF (P.2.2.2.2 19)))), (q 20, .inl (cI, 200, .inl (nF (P.2.2.1 20)))), (q 21, .inl (cI, 200, .inl (nF (P.2.2.1 21)))), (q 22, .inl (cI, 200, .inl (oF (P.2.2.2.1 22)))), (q 23, .inl (cI, 18, .inl (nF (P.2.2.1 23)))), (q 25, .inl (cI, 400, .inl (nF (P.2.2.1 25)))), (q 26, .inl (cI, 401, .inl (nF (P.2.2.1 26)))), (q 28, .inl (cI, 700, .inl (nF (P.2.2.1 28)))), (q 29, .inl (cI, 700, .inl (oF (P.2.2.2.1 29)))), (q 30, .inl (cI, 700, .inl (nF (P.2.2.1 30)))), (q 31, .inl (cI, 700, .inl (nF (P.2.2.1 31)))), (q 32, .inl (cI, 700, .inl (nF (P.2.2.1 32)))), (q 33, .inl (cI, 700, .inl (oF (P.2.2.2.1 33)))), (q 34, .inl (cI, 700, .inl (nF (P.2.2.1 34)))), (q 35, .inl (cI, 700, .inl (nF (P.2.2.1 35)))), (q 36, .inl (cI, 18, .inl (nF (P.2.2.1 36)))), (q 38, .inl (cI, 700, .inl (nF (P.2.2.1 38))))] H := hP
    have hD : va_D A [(q 100, .inr (13, [f 0, .ref (q 1), f 2, .int (nI (P.1 3)), f 4, .int (nI nb), .int (nI ((P.2.2.1 8) t)), .ref (q 7), .ref (q 8), .ref (q 9), .ref (q 10), .int (nI (P.1 11)), .int (nI (P.1 12)), .int (nI (P.1 13)), .int (nI (P.1 14)), .int (nI (P.1 15)), .ref (q 16), .ref (q 17), .int (nI (P.1 18)), .ref (q 19), .ref (q 20), .ref (q 21), .ref (q 22), .ref (q 23), .int (nI (P.1 24)), .ref (q 25), .ref (q 26), .int (nI (P.1 27)), .ref (q 28), .ref (q 29), .ref (q 30), .ref (q 31), .ref (q 32), .ref (q 33), .ref (q 34), .ref (q 35), .ref (q 36), .int (nI (P.1 37)), .ref (q 38), f 39, f 40, .int (oI (P.2.1 41)), .int (nI (P.1 42)), .int (nI (P.1 43)), f 44, f 45, f 46, f 47, f 48, f 49, f 50, f 51, f 52, f 53, f 54, f 55, f 56, f 57, f 58, f 59, f 60, f 61, f 62, f 63, f 64, f 65, f 66, f 67, f 68, f 69, f 70])), (q 1, .inl (cI, 2000, .inl ft)), (q 7, .inl (cI, 1002, .inl (nF (P.2.2.1 7)))), (q 8, .inl (cI, 1002, .inl (nF (P.2.2.1 8)))), (q 9, .inl (cI, 1002, .inl (nF (P.2.2.1 9)))), (q 10, .inl (cI, 1002, .inl tv)), (q 16, .inl (cI, 17, .inl (nF (P.2.2.1 16)))), (q 17, .inl (cI, 18, .inl (nF (P.2.2.1 17)))), (q 19, .inl (cZ, 200, .inl (bF (P.2.2.2.2 19)))), (q 20, .inl (cI, 200, .inl (nF (P.2.2.1 20)))), (q 21, .inl (cI, 200, .inl (nF (P.2.2.1 21)))), (q 22, .inl (cI, 200, .inl (oF (P.2.2.2.1 22)))), (q 23, .inl (cI, 18, .inl (nF (P.2.2.1 23)))), (q 25, .inl (cI, 400, .inl (nF (P.2.2.1 25)))), (q 26, .inl (cI, 401, .inl (nF (P.2.2.1 26)))), (q 28, .inl (cI, 700, .inl (nF (P.2.2.1 28)))), (q 29, .inl (cI, 700, .inl (oF (P.2.2.2.1 29)))), (q 30, .inl (cI, 700, .inl (nF (P.2.2.1 30)))), (q 31, .inl (cI, 700, .inl (nF (P.2.2.1 31)))), (q 32, .inl (cI, 700, .inl (nF (P.2.2.1 32)))), (q 33, .inl (cI, 700, .inl (oF (P.2.2.2.1 33)))), (q 34, .inl (cI, 700, .inl (nF (P.2.2.1 34)))), (q 35, .inl (cI, 700, .inl (nF (P.2.2.1 35)))), (q 36, .inl (cI, 18, .inl (nF (P.2.2.1 36)))), (q 38, .inl (cI, 700, .inl (nF (P.2.2.1 38))))] := hD
    exact wr_v hx hb hr hlocks (zs (zs P 5 nb) 6 ((P.2.2.1 8) t)) (by unfold sp_note; rw [if_neg (by omega)]) hK hP hD hS d_Model_note_57
  · refine lv_aload_n hx hb d_Model_note_7 rfl (lv_at hl 0 rfl) ?_
    refine va_get (D := (dC, dI)) (ci := 13) (v := .int (nI (P.1 6))) (C := R_Model) (T := F_Model) (N := 71) hx hb hts i_Model hown hK hP 0 rfl rfl 6 (by decide) (hts _ k_880) (fun _ h9 => h9) rfl d_Model_note_8 ?_
    refine lv_aload_n hx hb d_Model_note_11 rfl (lv_at hl 0 rfl) ?_
    refine va_get (D := (dC, dI)) (ci := 13) (v := .ref (q 8)) (C := R_Model) (T := F_Model) (N := 71) hx hb hts i_Model hown hK hP 0 rfl rfl 8 (by decide) (hts _ k_882) (fun _ h9 => h9) rfl d_Model_note_12 ?_
    refine lv_iload_n hx hb d_Model_note_15 rfl (lv_at hl 2 rfl) ?_
    refine nv_iald hx hb hK hP 3 1 rfl rfl (by omega) (by decide) d_Model_note_16 ?_
    refine nv_icmp_lt (tgt := 41) hx hb (by omega) (by omega) d_Model_note_17 (by decide) (fun c_2 => ?_) (fun c_2 => ?_)
    · exact wr_v hx hb hr hlocks (P) (by unfold sp_note; rw [if_pos (by omega)]) hK hP hD hS d_Model_note_41
    · refine lv_aload_n hx hb d_Model_note_20 rfl (lv_at hl 0 rfl) ?_
      refine va_get (D := (dC, dI)) (ci := 13) (v := .int (nI (P.1 6))) (C := R_Model) (T := F_Model) (N := 71) hx hb hts i_Model hown hK hP 0 rfl rfl 6 (by decide) (hts _ k_880) (fun _ h9 => h9) rfl d_Model_note_21 ?_
      refine lv_aload_n hx hb d_Model_note_24 rfl (lv_at hl 0 rfl) ?_
      refine va_get (D := (dC, dI)) (ci := 13) (v := .ref (q 8)) (C := R_Model) (T := F_Model) (N := 71) hx hb hts i_Model hown hK hP 0 rfl rfl 8 (by decide) (hts _ k_882) (fun _ h9 => h9) rfl d_Model_note_25 ?_
      refine lv_iload_n hx hb d_Model_note_28 rfl (lv_at hl 2 rfl) ?_
      refine nv_iald hx hb hK hP 3 1 rfl rfl (by omega) (by decide) d_Model_note_29 ?_
      refine nv_icmp_ne (tgt := 42) hx hb (by omega) (by omega) d_Model_note_30 (by decide) (fun c_3 => ?_) (fun c_3 => ?_)
      · refine lv_aload_n hx hb d_Model_note_42 rfl (lv_at hl 0 rfl) ?_
        refine lv_iload_n hx hb d_Model_note_43 rfl (lv_at hl 1 rfl) ?_
        refine va_put (D := (dC, dI)) (ci := 13) (v := .int (nI nb)) (ty := .int) (C := R_Model) (T := F_Model) (N := 71) hx hb hts i_Model t_Model t_Model_ok n_Model hown hK hP hD hS 0 rfl rfl 5 (by decide) (hts _ k_879) (fun _ h9 => h9) rfl (by decide +kernel) rfl rfl (Nat.le_of_ble_eq_true rfl) d_Model_note_44 (fun H locs hP hD hS => ?_)
        have hP : va_P (dC, dI) cl [(q 100, .inr (13, [f 0, .ref (q 1), f 2, .int (nI (P.1 3)), f 4, .int (nI nb), .int (nI (P.1 6)), .ref (q 7), .ref (q 8), .ref (q 9), .ref (q 10), .int (nI (P.1 11)), .int (nI (P.1 12)), .int (nI (P.1 13)), .int (nI (P.1 14)), .int (nI (P.1 15)), .ref (q 16), .ref (q 17), .int (nI (P.1 18)), .ref (q 19), .ref (q 20), .ref (q 21), .ref (q 22), .ref (q 23), .int (nI (P.1 24)), .ref (q 25), .ref (q 26), .int (nI (P.1 27)), .ref (q 28), .ref (q 29), .ref (q 30), .ref (q 31), .ref (q 32), .ref (q 33), .ref (q 34), .ref (q 35), .ref (q 36), .int (nI (P.1 37)), .ref (q 38), f 39, f 40, .int (oI (P.2.1 41)), .int (nI (P.1 42)), .int (nI (P.1 43)), f 44, f 45, f 46, f 47, f 48, f 49, f 50, f 51, f 52, f 53, f 54, f 55, f 56, f 57, f 58, f 59, f 60, f 61, f 62, f 63, f 64, f 65, f 66, f 67, f 68, f 69, f 70])), (q 1, .inl (cI, 2000, .inl ft)), (q 7, .inl (cI, 1002, .inl (nF (P.2.2.1 7)))), (q 8, .inl (cI, 1002, .inl (nF (P.2.2.1 8)))), (q 9, .inl (cI, 1002, .inl (nF (P.2.2.1 9)))), (q 10, .inl (cI, 1002, .inl tv)), (q 16, .inl (cI, 17, .inl (nF (P.2.2.1 16)))), (q 17, .inl (cI, 18, .inl (nF (P.2.2.1 17)))), (q 19, .inl (cZ, 200, .inl (bF (P.2.2.2.2 19)))), (q 20, .inl (cI, 200, .inl (nF (P.2.2.1 20)))), (q 21, .inl (cI, 200, .inl (nF (P.2.2.1 21)))), (q 22, .inl (cI, 200, .inl (oF (P.2.2.2.1 22)))), (q 23, .inl (cI, 18, .inl (nF (P.2.2.1 23)))), (q 25, .inl (cI, 400, .inl (nF (P.2.2.1 25)))), (q 26, .inl (cI, 401, .inl (nF (P.2.2.1 26)))), (q 28, .inl (cI, 700, .inl (nF (P.2.2.1 28)))), (q 29, .inl (cI, 700, .inl (oF (P.2.2.2.1 29)))), (q 30, .inl (cI, 700, .inl (nF (P.2.2.1 30)))), (q 31, .inl (cI, 700, .inl (nF (P.2.2.1 31)))), (q 32, .inl (cI, 700, .inl (nF (P.2.2.1 32)))), (q 33, .inl (cI, 700, .inl (oF (P.2.2.2.1 33)))), (q 34, .inl (cI, 700, .inl (nF (P.2.2.1 34)))), (q 35, .inl (cI, 700, .inl (nF (P.2.2.1 35)))), (q 36, .inl (cI, 18, .inl (nF (P.2.2.1 36)))), (q 38, .inl (cI, 700, .inl (nF (P.2.2.1 38))))] H := hP
        have hD : va_D A [(q 100, .inr (13, [f 0, .ref (q 1), f 2, .int (nI (P.1 3)), f 4, .int (nI nb), .int (nI (P.1 6)), .ref (q 7), .ref (q 8), .ref (q 9), .ref (q 10), .int (nI (P.1 11)), .int (nI (P.1 12)), .int (nI (P.1 13)), .int (nI (P.1 14)), .int (nI (P.1 15)), .ref (q 16), .ref (q 17), .int (nI (P.1 18)), .ref (q 19), .ref (q 20), .ref (q 21), .ref (q 22), .ref (q 23), .int (nI (P.1 24)), .ref (q 25), .ref (q 26), .int (nI (P.1 27)), .ref (q 28), .ref (q 29), .ref (q 30), .ref (q 31), .ref (q 32), .ref (q 33), .ref (q 34), .ref (q 35), .ref (q 36), .int (nI (P.1 37)), .ref (q 38), f 39, f 40, .int (oI (P.2.1 41)), .int (nI (P.1 42)), .int (nI (P.1 43)), f 44, f 45, f 46, f 47, f 48, f 49, f 50, f 51, f 52, f 53, f 54, f 55, f 56, f 57, f 58, f 59, f 60, f 61, f 62, f 63, f 64, f 65, f 66, f 67, f 68, f 69, f 70])), (q 1, .inl (cI, 2000, .inl ft)), (q 7, .inl (cI, 1002, .inl (nF (P.2.2.1 7)))), (q 8, .inl (cI, 1002, .inl (nF (P.2.2.1 8)))), (q 9, .inl (cI, 1002, .inl (nF (P.2.2.1 9)))), (q 10, .inl (cI, 1002, .inl tv)), (q 16, .inl (cI, 17, .inl (nF (P.2.2.1 16)))), (q 17, .inl (cI, 18, .inl (nF (P.2.2.1 17)))), (q 19, .inl (cZ, 200, .inl (bF (P.2.2.2.2 19)))), (q 20, .inl (cI, 200, .inl (nF (P.2.2.1 20)))), (q 21, .inl (cI, 200, .inl (nF (P.2.2.1 21)))), (q 22, .inl (cI, 200, .inl (oF (P.2.2.2.1 22)))), (q 23, .inl (cI, 18, .inl (nF (P.2.2.1 23)))), (q 25, .inl (cI, 400, .inl (nF (P.2.2.1 25)))), (q 26, .inl (cI, 401, .inl (nF (P.2.2.1 26)))), (q 28, .inl (cI, 700, .inl (nF (P.2.2.1 28)))), (q 29, .inl (cI, 700, .inl (oF (P.2.2.2.1 29)))), (q 30, .inl (cI, 700, .inl (nF (P.2.2.1 30)))), (q 31, .inl (cI, 700, .inl (nF (P.2.2.1 31)))), (q 32, .inl (cI, 700, .inl (nF (P.2.2.1 32)))), (q 33, .inl (cI, 700, .inl (oF (P.2.2.2.1 33)))), (q 34, .inl (cI, 700, .inl (nF (P.2.2.1 34)))), (q 35, .inl (cI, 700, .inl (nF (P.2.2.1 35)))), (q 36, .inl (cI, 18, .inl (nF (P.2.2.1 36)))), (q 38, .inl (cI, 700, .inl (nF (P.2.2.1 38))))] := hD
        refine lv_aload_n hx hb d_Model_note_47 rfl (lv_at hl 0 rfl) ?_
        refine lv_aload_n hx hb d_Model_note_48 rfl (lv_at hl 0 rfl) ?_
        refine va_get (D := (dC, dI)) (ci := 13) (v := .ref (q 8)) (C := R_Model) (T := F_Model) (N := 71) hx hb hts i_Model hown hK hP 0 rfl rfl 8 (by decide) (hts _ k_882) (fun _ h9 => h9) rfl d_Model_note_49 ?_
        refine lv_iload_n hx hb d_Model_note_52 rfl (lv_at hl 2 rfl) ?_
        refine nv_iald hx hb hK hP 3 1 rfl rfl (by omega) (by decide) d_Model_note_53 ?_
        refine va_put (D := (dC, dI)) (ci := 13) (v := .int (nI ((P.2.2.1 8) t))) (ty := .int) (C := R_Model) (T := F_Model) (N := 71) hx hb hts i_Model t_Model t_Model_ok n_Model hown hK hP hD hS 0 rfl rfl 6 (by decide) (hts _ k_880) (fun _ h9 => h9) rfl (by decide +kernel) rfl rfl (Nat.le_of_ble_eq_true rfl) d_Model_note_54 (fun H locs hP hD hS => ?_)
        have hP : va_P (dC, dI) cl [(q 100, .inr (13, [f 0, .ref (q 1), f 2, .int (nI (P.1 3)), f 4, .int (nI nb), .int (nI ((P.2.2.1 8) t)), .ref (q 7), .ref (q 8), .ref (q 9), .ref (q 10), .int (nI (P.1 11)), .int (nI (P.1 12)), .int (nI (P.1 13)), .int (nI (P.1 14)), .int (nI (P.1 15)), .ref (q 16), .ref (q 17), .int (nI (P.1 18)), .ref (q 19), .ref (q 20), .ref (q 21), .ref (q 22), .ref (q 23), .int (nI (P.1 24)), .ref (q 25), .ref (q 26), .int (nI (P.1 27)), .ref (q 28), .ref (q 29), .ref (q 30), .ref (q 31), .ref (q 32), .ref (q 33), .ref (q 34), .ref (q 35), .ref (q 36), .int (nI (P.1 37)), .ref (q 38), f 39, f 40, .int (oI (P.2.1 41)), .int (nI (P.1 42)), .int (nI (P.1 43)), f 44, f 45, f 46, f 47, f 48, f 49, f 50, f 51, f 52, f 53, f 54, f 55, f 56, f 57, f 58, f 59, f 60, f 61, f 62, f 63, f 64, f 65, f 66, f 67, f 68, f 69, f 70])), (q 1, .inl (cI, 2000, .inl ft)), (q 7, .inl (cI, 1002, .inl (nF (P.2.2.1 7)))), (q 8, .inl (cI, 1002, .inl (nF (P.2.2.1 8)))), (q 9, .inl (cI, 1002, .inl (nF (P.2.2.1 9)))), (q 10, .inl (cI, 1002, .inl tv)), (q 16, .inl (cI, 17, .inl (nF (P.2.2.1 16)))), (q 17, .inl (cI, 18, .inl (nF (P.2.2.1 17)))), (q 19, .inl (cZ, 200, .inl (bF (P.2.2.2.2 19)))), (q 20, .inl (cI, 200, .inl (nF (P.2.2.1 20)))), (q 21, .inl (cI, 200, .inl (nF (P.2.2.1 21)))), (q 22, .inl (cI, 200, .inl (oF (P.2.2.2.1 22)))), (q 23, .inl (cI, 18, .inl (nF (P.2.2.1 23)))), (q 25, .inl (cI, 400, .inl (nF (P.2.2.1 25)))), (q 26, .inl (cI, 401, .inl (nF (P.2.2.1 26)))), (q 28, .inl (cI, 700, .inl (nF (P.2.2.1 28)))), (q 29, .inl (cI, 700, .inl (oF (P.2.2.2.1 29)))), (q 30, .inl (cI, 700, .inl (nF (P.2.2.1 30)))), (q 31, .inl (cI, 700, .inl (nF (P.2.2.1 31)))), (q 32, .inl (cI, 700, .inl (nF (P.2.2.1 32)))), (q 33, .inl (cI, 700, .inl (oF (P.2.2.2.1 33)))), (q 34, .inl (cI, 700, .inl (nF (P.2.2.1 34)))), (q 35, .inl (cI, 700, .inl (nF (P.2.2.1 35)))), (q 36, .inl (cI, 18, .inl (nF (P.2.2.1 36)))), (q 38, .inl (cI, 700, .inl (nF (P.2.2.1 38))))] H := hP
        have hD : va_D A [(q 100, .inr (13, [f 0, .ref (q 1), f 2, .int (nI (P.1 3)), f 4, .int (nI nb), .int (nI ((P.2.2.1 8) t)), .ref (q 7), .ref (q 8), .ref (q 9), .ref (q 10), .int (nI (P.1 11)), .int (nI (P.1 12)), .int (nI (P.1 13)), .int (nI (P.1 14)), .int (nI (P.1 15)), .ref (q 16), .ref (q 17), .int (nI (P.1 18)), .ref (q 19), .ref (q 20), .ref (q 21), .ref (q 22), .ref (q 23), .int (nI (P.1 24)), .ref (q 25), .ref (q 26), .int (nI (P.1 27)), .ref (q 28), .ref (q 29), .ref (q 30), .ref (q 31), .ref (q 32), .ref (q 33), .ref (q 34), .ref (q 35), .ref (q 36), .int (nI (P.1 37)), .ref (q 38), f 39, f 40, .int (oI (P.2.1 41)), .int (nI (P.1 42)), .int (nI (P.1 43)), f 44, f 45, f 46, f 47, f 48, f 49, f 50, f 51, f 52, f 53, f 54, f 55, f 56, f 57, f 58, f 59, f 60, f 61, f 62, f 63, f 64, f 65, f 66, f 67, f 68, f 69, f 70])), (q 1, .inl (cI, 2000, .inl ft)), (q 7, .inl (cI, 1002, .inl (nF (P.2.2.1 7)))), (q 8, .inl (cI, 1002, .inl (nF (P.2.2.1 8)))), (q 9, .inl (cI, 1002, .inl (nF (P.2.2.1 9)))), (q 10, .inl (cI, 1002, .inl tv)), (q 16, .inl (cI, 17, .inl (nF (P.2.2.1 16)))), (q 17, .inl (cI, 18, .inl (nF (P.2.2.1 17)))), (q 19, .inl (cZ, 200, .inl (bF (P.2.2.2.2 19)))), (q 20, .inl (cI, 200, .inl (nF (P.2.2.1 20)))), (q 21, .inl (cI, 200, .inl (nF (P.2.2.1 21)))), (q 22, .inl (cI, 200, .inl (oF (P.2.2.2.1 22)))), (q 23, .inl (cI, 18, .inl (nF (P.2.2.1 23)))), (q 25, .inl (cI, 400, .inl (nF (P.2.2.1 25)))), (q 26, .inl (cI, 401, .inl (nF (P.2.2.1 26)))), (q 28, .inl (cI, 700, .inl (nF (P.2.2.1 28)))), (q 29, .inl (cI, 700, .inl (oF (P.2.2.2.1 29)))), (q 30, .inl (cI, 700, .inl (nF (P.2.2.1 30)))), (q 31, .inl (cI, 700, .inl (nF (P.2.2.1 31)))), (q 32, .inl (cI, 700, .inl (nF (P.2.2.1 32)))), (q 33, .inl (cI, 700, .inl (oF (P.2.2.2.1 33)))), (q 34, .inl (cI, 700, .inl (nF (P.2.2.1 34)))), (q 35, .inl (cI, 700, .inl (nF (P.2.2.1 35)))), (q 36, .inl (cI, 18, .inl (nF (P.2.2.1 36)))), (q 38, .inl (cI, 700, .inl (nF (P.2.2.1 38))))] := hD
        exact wr_v hx hb hr hlocks (zs (zs P 5 nb) 6 ((P.2.2.1 8) t)) (by unfold sp_note; rw [if_neg (by omega)]) hK hP hD hS d_Model_note_57
      · refine lv_aload_n hx hb d_Model_note_33 rfl (lv_at hl 0 rfl) ?_
        refine va_get (D := (dC, dI)) (ci := 13) (v := .int (nI (P.1 5))) (C := R_Model) (T := F_Model) (N := 71) hx hb hts i_Model hown hK hP 0 rfl rfl 5 (by decide) (hts _ k_879) (fun _ h9 => h9) rfl d_Model_note_34 ?_
        refine lv_iload_n hx hb d_Model_note_37 rfl (lv_at hl 1 rfl) ?_
        refine nv_icmp_gt (tgt := 42) hx hb (by omega) (by omega) d_Model_note_38 (by decide) (fun c_4 => ?_) (fun c_4 => ?_)
        · refine lv_aload_n hx hb d_Model_note_42 rfl (lv_at hl 0 rfl) ?_
          refine lv_iload_n hx hb d_Model_note_43 rfl (lv_at hl 1 rfl) ?_
          refine va_put (D := (dC, dI)) (ci := 13) (v := .int (nI nb)) (ty := .int) (C := R_Model) (T := F_Model) (N := 71) hx hb hts i_Model t_Model t_Model_ok n_Model hown hK hP hD hS 0 rfl rfl 5 (by decide) (hts _ k_879) (fun _ h9 => h9) rfl (by decide +kernel) rfl rfl (Nat.le_of_ble_eq_true rfl) d_Model_note_44 (fun H locs hP hD hS => ?_)
          have hP : va_P (dC, dI) cl [(q 100, .inr (13, [f 0, .ref (q 1), f 2, .int (nI (P.1 3)), f 4, .int (nI nb), .int (nI (P.1 6)), .ref (q 7), .ref (q 8), .ref (q 9), .ref (q 10), .int (nI (P.1 11)), .int (nI (P.1 12)), .int (nI (P.1 13)), .int (nI (P.1 14)), .int (nI (P.1 15)), .ref (q 16), .ref (q 17), .int (nI (P.1 18)), .ref (q 19), .ref (q 20), .ref (q 21), .ref (q 22), .ref (q 23), .int (nI (P.1 24)), .ref (q 25), .ref (q 26), .int (nI (P.1 27)), .ref (q 28), .ref (q 29), .ref (q 30), .ref (q 31), .ref (q 32), .ref (q 33), .ref (q 34), .ref (q 35), .ref (q 36), .int (nI (P.1 37)), .ref (q 38), f 39, f 40, .int (oI (P.2.1 41)), .int (nI (P.1 42)), .int (nI (P.1 43)), f 44, f 45, f 46, f 47, f 48, f 49, f 50, f 51, f 52, f 53, f 54, f 55, f 56, f 57, f 58, f 59, f 60, f 61, f 62, f 63, f 64, f 65, f 66, f 67, f 68, f 69, f 70])), (q 1, .inl (cI, 2000, .inl ft)), (q 7, .inl (cI, 1002, .inl (nF (P.2.2.1 7)))), (q 8, .inl (cI, 1002, .inl (nF (P.2.2.1 8)))), (q 9, .inl (cI, 1002, .inl (nF (P.2.2.1 9)))), (q 10, .inl (cI, 1002, .inl tv)), (q 16, .inl (cI, 17, .inl (nF (P.2.2.1 16)))), (q 17, .inl (cI, 18, .inl (nF (P.2.2.1 17)))), (q 19, .inl (cZ, 200, .inl (bF (P.2.2.2.2 19)))), (q 20, .inl (cI, 200, .inl (nF (P.2.2.1 20)))), (q 21, .inl (cI, 200, .inl (nF (P.2.2.1 21)))), (q 22, .inl (cI, 200, .inl (oF (P.2.2.2.1 22)))), (q 23, .inl (cI, 18, .inl (nF (P.2.2.1 23)))), (q 25, .inl (cI, 400, .inl (nF (P.2.2.1 25)))), (q 26, .inl (cI, 401, .inl (nF (P.2.2.1 26)))), (q 28, .inl (cI, 700, .inl (nF (P.2.2.1 28)))), (q 29, .inl (cI, 700, .inl (oF (P.2.2.2.1 29)))), (q 30, .inl (cI, 700, .inl (nF (P.2.2.1 30)))), (q 31, .inl (cI, 700, .inl (nF (P.2.2.1 31)))), (q 32, .inl (cI, 700, .inl (nF (P.2.2.1 32)))), (q 33, .inl (cI, 700, .inl (oF (P.2.2.2.1 33)))), (q 34, .inl (cI, 700, .inl (nF (P.2.2.1 34)))), (q 35, .inl (cI, 700, .inl (nF (P.2.2.1 35)))), (q 36, .inl (cI, 18, .inl (nF (P.2.2.1 36)))), (q 38, .inl (cI, 700, .inl (nF (P.2.2.1 38))))] H := hP
          have hD : va_D A [(q 100, .inr (13, [f 0, .ref (q 1), f 2, .int (nI (P.1 3)), f 4, .int (nI nb), .int (nI (P.1 6)), .ref (q 7), .ref (q 8), .ref (q 9), .ref (q 10), .int (nI (P.1 11)), .int (nI (P.1 12)), .int (nI (P.1 13)), .int (nI (P.1 14)), .int (nI (P.1 15)), .ref (q 16), .ref (q 17), .int (nI (P.1 18)), .ref (q 19), .ref (q 20), .ref (q 21), .ref (q 22), .ref (q 23), .int (nI (P.1 24)), .ref (q 25), .ref (q 26), .int (nI (P.1 27)), .ref (q 28), .ref (q 29), .ref (q 30), .ref (q 31), .ref (q 32), .ref (q 33), .ref (q 34), .ref (q 35), .ref (q 36), .int (nI (P.1 37)), .ref (q 38), f 39, f 40, .int (oI (P.2.1 41)), .int (nI (P.1 42)), .int (nI (P.1 43)), f 44, f 45, f 46, f 47, f 48, f 49, f 50, f 51, f 52, f 53, f 54, f 55, f 56, f 57, f 58, f 59, f 60, f 61, f 62, f 63, f 64, f 65, f 66, f 67, f 68, f 69, f 70])), (q 1, .inl (cI, 2000, .inl ft)), (q 7, .inl (cI, 1002, .inl (nF (P.2.2.1 7)))), (q 8, .inl (cI, 1002, .inl (nF (P.2.2.1 8)))), (q 9, .inl (cI, 1002, .inl (nF (P.2.2.1 9)))), (q 10, .inl (cI, 1002, .inl tv)), (q 16, .inl (cI, 17, .inl (nF (P.2.2.1 16)))), (q 17, .inl (cI, 18, .inl (nF (P.2.2.1 17)))), (q 19, .inl (cZ, 200, .inl (bF (P.2.2.2.2 19)))), (q 20, .inl (cI, 200, .inl (nF (P.2.2.1 20)))), (q 21, .inl (cI, 200, .inl (nF (P.2.2.1 21)))), (q 22, .inl (cI, 200, .inl (oF (P.2.2.2.1 22)))), (q 23, .inl (cI, 18, .inl (nF (P.2.2.1 23)))), (q 25, .inl (cI, 400, .inl (nF (P.2.2.1 25)))), (q 26, .inl (cI, 401, .inl (nF (P.2.2.1 26)))), (q 28, .inl (cI, 700, .inl (nF (P.2.2.1 28)))), (q 29, .inl (cI, 700, .inl (oF (P.2.2.2.1 29)))), (q 30, .inl (cI, 700, .inl (nF (P.2.2.1 30)))), (q 31, .inl (cI, 700, .inl (nF (P.2.2.1 31)))), (q 32, .inl (cI, 700, .inl (nF (P.2.2.1 32)))), (q 33, .inl (cI, 700, .inl (oF (P.2.2.2.1 33)))), (q 34, .inl (cI, 700, .inl (nF (P.2.2.1 34)))), (q 35, .inl (cI, 700, .inl (nF (P.2.2.1 35)))), (q 36, .inl (cI, 18, .inl (nF (P.2.2.1 36)))), (q 38, .inl (cI, 700, .inl (nF (P.2.2.1 38))))] := hD
          refine lv_aload_n hx hb d_Model_note_47 rfl (lv_at hl 0 rfl) ?_
          refine lv_aload_n hx hb d_Model_note_48 rfl (lv_at hl 0 rfl) ?_
          refine va_get (D := (dC, dI)) (ci := 13) (v := .ref (q 8)) (C := R_Model) (T := F_Model) (N := 71) hx hb hts i_Model hown hK hP 0 rfl rfl 8 (by decide) (hts _ k_882) (fun _ h9 => h9) rfl d_Model_note_49 ?_
          refine lv_iload_n hx hb d_Model_note_52 rfl (lv_at hl 2 rfl) ?_
          refine nv_iald hx hb hK hP 3 1 rfl rfl (by omega) (by decide) d_Model_note_53 ?_
          refine va_put (D := (dC, dI)) (ci := 13) (v := .int (nI ((P.2.2.1 8) t))) (ty := .int) (C := R_Model) (T := F_Model) (N := 71) hx hb hts i_Model t_Model t_Model_ok n_Model hown hK hP hD hS 0 rfl rfl 6 (by decide) (hts _ k_880) (fun _ h9 => h9) rfl (by decide +kernel) rfl rfl (Nat.le_of_ble_eq_true rfl) d_Model_note_54 (fun H locs hP hD hS => ?_)
          have hP : va_P (dC, dI) cl [(q 100, .inr (13, [f 0, .ref (q 1), f 2, .int (nI (P.1 3)), f 4, .int (nI nb), .int (nI ((P.2.2.1 8) t)), .ref (q 7), .ref (q 8), .ref (q 9), .ref (q 10), .int (nI (P.1 11)), .int (nI (P.1 12)), .int (nI (P.1 13)), .int (nI (P.1 14)), .int (nI (P.1 15)), .ref (q 16), .ref (q 17), .int (nI (P.1 18)), .ref (q 19), .ref (q 20), .ref (q 21), .ref (q 22), .ref (q 23), .int (nI (P.1 24)), .ref (q 25), .ref (q 26), .int (nI (P.1 27)), .ref (q 28), .ref (q 29), .ref (q 30), .ref (q 31), .ref (q 32), .ref (q 33), .ref (q 34), .ref (q 35), .ref (q 36), .int (nI (P.1 37)), .ref (q 38), f 39, f 40, .int (oI (P.2.1 41)), .int (nI (P.1 42)), .int (nI (P.1 43)), f 44, f 45, f 46, f 47, f 48, f 49, f 50, f 51, f 52, f 53, f 54, f 55, f 56, f 57, f 58, f 59, f 60, f 61, f 62, f 63, f 64, f 65, f 66, f 67, f 68, f 69, f 70])), (q 1, .inl (cI, 2000, .inl ft)), (q 7, .inl (cI, 1002, .inl (nF (P.2.2.1 7)))), (q 8, .inl (cI, 1002, .inl (nF (P.2.2.1 8)))), (q 9, .inl (cI, 1002, .inl (nF (P.2.2.1 9)))), (q 10, .inl (cI, 1002, .inl tv)), (q 16, .inl (cI, 17, .inl (nF (P.2.2.1 16)))), (q 17, .inl (cI, 18, .inl (nF (P.2.2.1 17)))), (q 19, .inl (cZ, 200, .inl (bF (P.2.2.2.2 19)))), (q 20, .inl (cI, 200, .inl (nF (P.2.2.1 20)))), (q 21, .inl (cI, 200, .inl (nF (P.2.2.1 21)))), (q 22, .inl (cI, 200, .inl (oF (P.2.2.2.1 22)))), (q 23, .inl (cI, 18, .inl (nF (P.2.2.1 23)))), (q 25, .inl (cI, 400, .inl (nF (P.2.2.1 25)))), (q 26, .inl (cI, 401, .inl (nF (P.2.2.1 26)))), (q 28, .inl (cI, 700, .inl (nF (P.2.2.1 28)))), (q 29, .inl (cI, 700, .inl (oF (P.2.2.2.1 29)))), (q 30, .inl (cI, 700, .inl (nF (P.2.2.1 30)))), (q 31, .inl (cI, 700, .inl (nF (P.2.2.1 31)))), (q 32, .inl (cI, 700, .inl (nF (P.2.2.1 32)))), (q 33, .inl (cI, 700, .inl (oF (P.2.2.2.1 33)))), (q 34, .inl (cI, 700, .inl (nF (P.2.2.1 34)))), (q 35, .inl (cI, 700, .inl (nF (P.2.2.1 35)))), (q 36, .inl (cI, 18, .inl (nF (P.2.2.1 36)))), (q 38, .inl (cI, 700, .inl (nF (P.2.2.1 38))))] H := hP
          have hD : va_D A [(q 100, .inr (13, [f 0, .ref (q 1), f 2, .int (nI (P.1 3)), f 4, .int (nI nb), .int (nI ((P.2.2.1 8) t)), .ref (q 7), .ref (q 8), .ref (q 9), .ref (q 10), .int (nI (P.1 11)), .int (nI (P.1 12)), .int (nI (P.1 13)), .int (nI (P.1 14)), .int (nI (P.1 15)), .ref (q 16), .ref (q 17), .int (nI (P.1 18)), .ref (q 19), .ref (q 20), .ref (q 21), .ref (q 22), .ref (q 23), .int (nI (P.1 24)), .ref (q 25), .ref (q 26), .int (nI (P.1 27)), .ref (q 28), .ref (q 29), .ref (q 30), .ref (q 31), .ref (q 32), .ref (q 33), .ref (q 34), .ref (q 35), .ref (q 36), .int (nI (P.1 37)), .ref (q 38), f 39, f 40, .int (oI (P.2.1 41)), .int (nI (P.1 42)), .int (nI (P.1 43)), f 44, f 45, f 46, f 47, f 48, f 49, f 50, f 51, f 52, f 53, f 54, f 55, f 56, f 57, f 58, f 59, f 60, f 61, f 62, f 63, f 64, f 65, f 66, f 67, f 68, f 69, f 70])), (q 1, .inl (cI, 2000, .inl ft)), (q 7, .inl (cI, 1002, .inl (nF (P.2.2.1 7)))), (q 8, .inl (cI, 1002, .inl (nF (P.2.2.1 8)))), (q 9, .inl (cI, 1002, .inl (nF (P.2.2.1 9)))), (q 10, .inl (cI, 1002, .inl tv)), (q 16, .inl (cI, 17, .inl (nF (P.2.2.1 16)))), (q 17, .inl (cI, 18, .inl (nF (P.2.2.1 17)))), (q 19, .inl (cZ, 200, .inl (bF (P.2.2.2.2 19)))), (q 20, .inl (cI, 200, .inl (nF (P.2.2.1 20)))), (q 21, .inl (cI, 200, .inl (nF (P.2.2.1 21)))), (q 22, .inl (cI, 200, .inl (oF (P.2.2.2.1 22)))), (q 23, .inl (cI, 18, .inl (nF (P.2.2.1 23)))), (q 25, .inl (cI, 400, .inl (nF (P.2.2.1 25)))), (q 26, .inl (cI, 401, .inl (nF (P.2.2.1 26)))), (q 28, .inl (cI, 700, .inl (nF (P.2.2.1 28)))), (q 29, .inl (cI, 700, .inl (oF (P.2.2.2.1 29)))), (q 30, .inl (cI, 700, .inl (nF (P.2.2.1 30)))), (q 31, .inl (cI, 700, .inl (nF (P.2.2.1 31)))), (q 32, .inl (cI, 700, .inl (nF (P.2.2.1 32)))), (q 33, .inl (cI, 700, .inl (oF (P.2.2.2.1 33)))), (q 34, .inl (cI, 700, .inl (nF (P.2.2.1 34)))), (q 35, .inl (cI, 700, .inl (nF (P.2.2.1 35)))), (q 36, .inl (cI, 18, .inl (nF (P.2.2.1 36)))), (q 38, .inl (cI, 700, .inl (nF (P.2.2.1 38))))] := hD
          exact wr_v hx hb hr hlocks (zs (zs P 5 nb) 6 ((P.2.2.1 8) t)) (by unfold sp_note; rw [if_neg (by omega)]) hK hP hD hS d_Model_note_57
        · exact wr_v hx hb hr hlocks (P) (by unfold sp_note; rw [if_pos (by omega)]) hK hP hD hS d_Model_note_41
theorem d_Fault_clear_0 : decode b_Fault_clear 0 = .ok (.aload_n 0, 1) := by decide +kernel
theorem d_Fault_clear_1 : decode b_Fault_clear 1 = .ok (.iconst 0, 1) := by decide +kernel
theorem d_Fault_clear_2 : decode b_Fault_clear 2 = .ok (.putfield 9, 3) := by decide +kernel
theorem d_Fault_clear_5 : decode b_Fault_clear 5 = .ok (.aload_n 0, 1) := by decide +kernel
theorem d_Fault_clear_6 : decode b_Fault_clear 6 = .ok (.iconst (-1), 1) := by decide +kernel
theorem d_Fault_clear_7 : decode b_Fault_clear 7 = .ok (.putfield 13, 3) := by decide +kernel
theorem d_Fault_clear_10 : decode b_Fault_clear 10 = .ok (.return_, 1) := by decide +kernel
set_option maxHeartbeats 4000000 in
set_option maxRecDepth 100000 in
/-- Fault_clear -/
theorem c_Fault_clear (l : Launch) (dC : Nat → ClassId) (dI : Nat → Nat → Nat) (cB cI cL cZ cC cO : ClassId)  (qf : Nat) {v0 v1 : Value} (sz : Nat)  : Met l y_Fault_clear w_Fault_clear ({ frames := 0, cells := 0, slots := 0, locals := 0 }) (va_Pc [.ref qf] (wB (dC, dI) cl [(cB, .byte), (cI, .int), (cL, .long), (cZ, .boolean), (cC, .char), (cO, .object "java/lang/Object")] sz [(qf, .inr (2, [v0, v1]))])) (va_Qv (fun (u : Unit) => True) (fun _ t => wA (dC, dI) cl [(cB, .byte), (cI, .int), (cL, .long), (cZ, .boolean), (cC, .char), (cO, .object "java/lang/Object")] (va_A [(qf, .inr (2, [v0, v1]))] sz) [(qf, .inr (2, [.int (nI 0), .int (-1)]))] t) (va_A [(qf, .inr (2, [v0, v1]))] sz)) 0 0 (va_A [(qf, .inr (2, [v0, v1]))] sz) := by
  refine Met.ofW (cc := b_Fault_clear) (maxL := 1) (ret := none) (by decide) rfl ?_
  intro p e s m args below meth c s₁ B hml hv
  obtain ⟨rfl, hsz, hP, hK, hD0, hF⟩ := hv
  have hx := B.exec
  have hb := B.bytes
  have hr := B.returns
  have hts := atoms_spec (ws := w_Fault_clear) B.pre
  have hts : ∀ w ∈ tb, w.before _ s = true := fun w h => hts w (List.mem_cons_of_mem _ h)
  have hown : s.vm.findClass R_Fault = some m.cls := findClass_of_methodNamed B.named
  have hlocks := B.notSynchronized
  subst hsz
  have hD := hD0.self (sz := s.heap.size)
  generalize hAe : va_A [(qf, .inr (2, [v0, v1]))] s.heap.size = A at hD hF ⊢
  have hA : ∀ q : Nat, s.heap.size ≤ q → A q := fun q h => by rw [← hAe]; exact Or.inr h
  have hS : va_S A s.heap s.heap [] := va_S.rf
  have hP : va_P (dC, dI) cl [(qf, .inr (2, [v0, v1]))] s.heap := hP
  have hl := lv_entry ([.ref qf]) (n := 1) (Nat.le_of_ble_eq_true rfl)
  rw [lg_entry_eq]
  generalize (lg_sl ([.ref qf]) ++ List.replicate (1 - (lg_sl ([.ref qf])).length) Slot.unset).toArray = ls at hl ⊢
  have hl : lv_has ls 1 [(0, .ref qf)] := hl
  refine lv_aload_n hx hb d_Fault_clear_0 rfl (lv_at hl 0 rfl) ?_
  refine lv_iconst (v := nI 0) hx hb d_Fault_clear_1 (by decide) ?_
  refine va_put (D := (dC, dI)) (ci := 2) (v := .int (nI 0)) (ty := .int) (C := R_Fault) (T := F_Fault) (N := 2) hx hb hts i_Fault t_Fault t_Fault_ok n_Fault hown hK hP hD hS 0 rfl rfl 0 (by decide) (hts _ k_74) (fun _ h9 => h9) rfl (by decide +kernel) rfl rfl (Nat.le_of_ble_eq_true rfl) d_Fault_clear_2 (fun H locs hP hD hS => ?_)
  have hP : va_P (dC, dI) cl [(qf, .inr (2, [.int (nI 0), v1]))] H := hP
  have hD : va_D A [(qf, .inr (2, [.int (nI 0), v1]))] := hD
  refine lv_aload_n hx hb d_Fault_clear_5 rfl (lv_at hl 0 rfl) ?_
  refine lv_iconst (v := (-1)) hx hb d_Fault_clear_6 (by decide) ?_
  refine va_put (D := (dC, dI)) (ci := 2) (v := .int (-1)) (ty := .int) (C := R_Fault) (T := F_Fault) (N := 2) hx hb hts i_Fault t_Fault t_Fault_ok n_Fault hown hK hP hD hS 0 rfl rfl 1 (by decide) (hts _ k_76) (fun _ h9 => h9) rfl (by decide +kernel) rfl rfl (Nat.le_of_ble_eq_true rfl) d_Fault_clear_7 (fun H locs hP hD hS => ?_)
  have hP : va_P (dC, dI) cl [(qf, .inr (2, [.int (nI 0), .int (-1)]))] H := hP
  have hD : va_D A [(qf, .inr (2, [.int (nI 0), .int (-1)]))] := hD
  exact wr_v hx hb hr hlocks () trivial hK hP hD hS d_Fault_clear_10
theorem d_Fault_note_0 : decode b_Fault_note 0 = .ok (.aload_n 0, 1) := by decide +kernel
theorem d_Fault_note_1 : decode b_Fault_note 1 = .ok (.iload_n 1, 1) := by decide +kernel
theorem d_Fault_note_2 : decode b_Fault_note 2 = .ok (.putfield 9, 3) := by decide +kernel
theorem d_Fault_note_5 : decode b_Fault_note 5 = .ok (.aload_n 0, 1) := by decide +kernel
theorem d_Fault_note_6 : decode b_Fault_note 6 = .ok (.iload_n 2, 1) := by decide +kernel
theorem d_Fault_note_7 : decode b_Fault_note 7 = .ok (.putfield 13, 3) := by decide +kernel
theorem d_Fault_note_10 : decode b_Fault_note 10 = .ok (.iconst 0, 1) := by decide +kernel
theorem d_Fault_note_11 : decode b_Fault_note 11 = .ok (.ireturn, 1) := by decide +kernel
set_option maxHeartbeats 4000000 in
set_option maxRecDepth 100000 in
/-- Fault_note -/
theorem c_Fault_note (l : Launch) (dC : Nat → ClassId) (dI : Nat → Nat → Nat) (cB cI cL cZ cC cO : ClassId)  (qf : Nat) {v0 v1 : Value} (x y : Int32) (sz : Nat)  : Met l y_Fault_note w_Fault_note ({ frames := 0, cells := 0, slots := 0, locals := 0 }) (va_Pc [.ref qf, .int x, .int y] (wB (dC, dI) cl [(cB, .byte), (cI, .int), (cL, .long), (cZ, .boolean), (cC, .char), (cO, .object "java/lang/Object")] sz [(qf, .inr (2, [v0, v1]))])) (va_Qi (fun (r : Int32) (u : Unit) => r = bI false) (fun _ t => wA (dC, dI) cl [(cB, .byte), (cI, .int), (cL, .long), (cZ, .boolean), (cC, .char), (cO, .object "java/lang/Object")] (va_A [(qf, .inr (2, [v0, v1]))] sz) [(qf, .inr (2, [.int x, .int y]))] t) (va_A [(qf, .inr (2, [v0, v1]))] sz)) 0 0 (va_A [(qf, .inr (2, [v0, v1]))] sz) := by
  refine Met.ofW (cc := b_Fault_note) (maxL := 3) (ret := (some ClassFile.FieldType.boolean)) (by decide) rfl ?_
  intro p e s m args below meth c s₁ B hml hv
  obtain ⟨rfl, hsz, hP, hK, hD0, hF⟩ := hv
  have hx := B.exec
  have hb := B.bytes
  have hr := B.returns
  have hts := atoms_spec (ws := w_Fault_note) B.pre
  have hts : ∀ w ∈ tb, w.before _ s = true := fun w h => hts w (List.mem_cons_of_mem _ h)
  have hown : s.vm.findClass R_Fault = some m.cls := findClass_of_methodNamed B.named
  have hlocks := B.notSynchronized
  subst hsz
  have hD := hD0.self (sz := s.heap.size)
  generalize hAe : va_A [(qf, .inr (2, [v0, v1]))] s.heap.size = A at hD hF ⊢
  have hA : ∀ q : Nat, s.heap.size ≤ q → A q := fun q h => by rw [← hAe]; exact Or.inr h
  have hS : va_S A s.heap s.heap [] := va_S.rf
  have hP : va_P (dC, dI) cl [(qf, .inr (2, [v0, v1]))] s.heap := hP
  have hl := lv_entry ([.ref qf, .int x, .int y]) (n := 3) (Nat.le_of_ble_eq_true rfl)
  rw [lg_entry_eq]
  generalize (lg_sl ([.ref qf, .int x, .int y]) ++ List.replicate (3 - (lg_sl ([.ref qf, .int x, .int y])).length) Slot.unset).toArray = ls at hl ⊢
  have hl : lv_has ls 3 [(0, .ref qf), (1, .int x), (2, .int y)] := hl
  refine lv_aload_n hx hb d_Fault_note_0 rfl (lv_at hl 0 rfl) ?_
  refine lv_iload_n hx hb d_Fault_note_1 rfl (lv_at hl 1 rfl) ?_
  refine va_put (D := (dC, dI)) (ci := 2) (v := .int x) (ty := .int) (C := R_Fault) (T := F_Fault) (N := 2) hx hb hts i_Fault t_Fault t_Fault_ok n_Fault hown hK hP hD hS 0 rfl rfl 0 (by decide) (hts _ k_74) (fun _ h9 => h9) rfl (by decide +kernel) rfl rfl (Nat.le_of_ble_eq_true rfl) d_Fault_note_2 (fun H locs hP hD hS => ?_)
  have hP : va_P (dC, dI) cl [(qf, .inr (2, [.int x, v1]))] H := hP
  have hD : va_D A [(qf, .inr (2, [.int x, v1]))] := hD
  refine lv_aload_n hx hb d_Fault_note_5 rfl (lv_at hl 0 rfl) ?_
  refine lv_iload_n hx hb d_Fault_note_6 rfl (lv_at hl 2 rfl) ?_
  refine va_put (D := (dC, dI)) (ci := 2) (v := .int y) (ty := .int) (C := R_Fault) (T := F_Fault) (N := 2) hx hb hts i_Fault t_Fault t_Fault_ok n_Fault hown hK hP hD hS 0 rfl rfl 1 (by decide) (hts _ k_76) (fun _ h9 => h9) rfl (by decide +kernel) rfl rfl (Nat.le_of_ble_eq_true rfl) d_Fault_note_7 (fun H locs hP hD hS => ?_)
  have hP : va_P (dC, dI) cl [(qf, .inr (2, [.int x, .int y]))] H := hP
  have hD : va_D A [(qf, .inr (2, [.int x, .int y]))] := hD
  refine lv_iconst (v := nI 0) hx hb d_Fault_note_10 (by decide) ?_
  exact wr_z (x := false) hx hb hr hlocks () rfl hK hP hD hS d_Fault_note_11
