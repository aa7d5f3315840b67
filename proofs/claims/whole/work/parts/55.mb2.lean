theorem d_Model_innerPlace_0 : decode b_Model_innerPlace 0 = .ok (.aload_n 0, 1) := by decide +kernel
theorem d_Model_innerPlace_1 : decode b_Model_innerPlace 1 = .ok (.iload_n 1, 1) := by decide +kernel
theorem d_Model_innerPlace_2 : decode b_Model_innerPlace 2 = .ok (.aload_n 0, 1) := by decide +kernel
theorem d_Model_innerPlace_3 : decode b_Model_innerPlace 3 = .ok (.getfield 36, 3) := by decide +kernel
theorem d_Model_innerPlace_6 : decode b_Model_innerPlace 6 = .ok (.iload_n 1, 1) := by decide +kernel
theorem d_Model_innerPlace_7 : decode b_Model_innerPlace 7 = .ok (.iconst 1, 1) := by decide +kernel
theorem d_Model_innerPlace_8 : decode b_Model_innerPlace 8 = .ok (.iadd, 1) := by decide +kernel
theorem d_Model_innerPlace_9 : decode b_Model_innerPlace 9 = .ok (.iaload, 1) := by decide +kernel
theorem d_Model_innerPlace_10 : decode b_Model_innerPlace 10 = .ok (.invokevirtual 342, 3) := by decide +kernel
theorem d_Model_innerPlace_13 : decode b_Model_innerPlace 13 = .ok (.istore_n 3, 1) := by decide +kernel
theorem d_Model_innerPlace_14 : decode b_Model_innerPlace 14 = .ok (.aload_n 0, 1) := by decide +kernel
theorem d_Model_innerPlace_15 : decode b_Model_innerPlace 15 = .ok (.getfield 85, 3) := by decide +kernel
theorem d_Model_innerPlace_18 : decode b_Model_innerPlace 18 = .ok (.iload_n 1, 1) := by decide +kernel
theorem d_Model_innerPlace_19 : decode b_Model_innerPlace 19 = .ok (.iaload, 1) := by decide +kernel
theorem d_Model_innerPlace_20 : decode b_Model_innerPlace 20 = .ok (.istore 4, 2) := by decide +kernel
theorem d_Model_innerPlace_22 : decode b_Model_innerPlace 22 = .ok (.iload 4, 2) := by decide +kernel
theorem d_Model_innerPlace_24 : decode b_Model_innerPlace 24 = .ok (.iload_n 2, 1) := by decide +kernel
theorem d_Model_innerPlace_25 : decode b_Model_innerPlace 25 = .ok (.if_icmp .ge 33, 3) := by decide +kernel
theorem d_Model_innerPlace_28 : decode b_Model_innerPlace 28 = .ok (.iload_n 3, 1) := by decide +kernel
theorem d_Model_innerPlace_29 : decode b_Model_innerPlace 29 = .ok (.aload_n 0, 1) := by decide +kernel
theorem d_Model_innerPlace_30 : decode b_Model_innerPlace 30 = .ok (.getfield 91, 3) := by decide +kernel
theorem d_Model_innerPlace_33 : decode b_Model_innerPlace 33 = .ok (.iload 4, 2) := by decide +kernel
theorem d_Model_innerPlace_35 : decode b_Model_innerPlace 35 = .ok (.iaload, 1) := by decide +kernel
theorem d_Model_innerPlace_36 : decode b_Model_innerPlace 36 = .ok (.ifCond .le 13, 3) := by decide +kernel
theorem d_Model_innerPlace_39 : decode b_Model_innerPlace 39 = .ok (.aload_n 0, 1) := by decide +kernel
theorem d_Model_innerPlace_40 : decode b_Model_innerPlace 40 = .ok (.getfield 91, 3) := by decide +kernel
theorem d_Model_innerPlace_43 : decode b_Model_innerPlace 43 = .ok (.iload 4, 2) := by decide +kernel
theorem d_Model_innerPlace_45 : decode b_Model_innerPlace 45 = .ok (.iaload, 1) := by decide +kernel
theorem d_Model_innerPlace_46 : decode b_Model_innerPlace 46 = .ok (.goto 4, 3) := by decide +kernel
theorem d_Model_innerPlace_49 : decode b_Model_innerPlace 49 = .ok (.iconst 0, 1) := by decide +kernel
theorem d_Model_innerPlace_50 : decode b_Model_innerPlace 50 = .ok (.iadd, 1) := by decide +kernel
theorem d_Model_innerPlace_51 : decode b_Model_innerPlace 51 = .ok (.istore_n 3, 1) := by decide +kernel
theorem d_Model_innerPlace_52 : decode b_Model_innerPlace 52 = .ok (.iinc 4 1, 3) := by decide +kernel
theorem d_Model_innerPlace_55 : decode b_Model_innerPlace 55 = .ok (.goto (-33), 3) := by decide +kernel
theorem d_Model_innerPlace_58 : decode b_Model_innerPlace 58 = .ok (.iload_n 3, 1) := by decide +kernel
theorem d_Model_innerPlace_59 : decode b_Model_innerPlace 59 = .ok (.ireturn, 1) := by decide +kernel
def m_isum (iw : Nat → Option Nat) : Nat → Nat → Nat → Nat
  | 0, _, n => n
  | k + 1, i, n => m_isum iw k (i + 1) (n + (iw i).getD 0)
theorem m_isum_u (iw : Nat → Option Nat) (e i n : Nat) : m_isum iw (e - i) i n = if i < e then m_isum iw (e - (i + 1)) (i + 1) (n + (iw i).getD 0) else n := by
  by_cases h : i < e
  · rw [if_pos h, show e - i = (e - (i + 1)) + 1 by omega]; rfl
  · rw [if_neg h, show e - i = 0 by omega]; rfl
def m_iplace (pf pw_ jf : Nat → Nat) (iw : Nat → Option Nat) (ch inn : Nat) : Nat := m_isum iw (inn - jf ch) (jf ch) (m_psum pw_ (pf (ch + 1) - pf ch) (pf ch) 0)
set_option maxHeartbeats 4000000 in
set_option maxRecDepth 100000 in
theorem lp_Model_innerPlace {p : Program} {l : Launch} {e : Env} {s : State} {m : MethodId} {args : Array Value} {below : List Frame} {meth : Method} {c : Code} {Q : State → Prop} {A : Nat → Prop} {dC : Nat → ClassId} {dI : Nat → Nat → Nat} {cB cI cL cZ cC cO : ClassId} {qm q_pinFirst q_pinWidth q_innerFirst q_innerWidth : Nat}{f0 f1 f2 f3 f4 f5 f6 f7 f8 f9 f10 f11 f12 f13 f14 f15 f16 f18 f19 f20 f22 f23 f24 f25 f26 f27 f28 f29 f30 f31 f32 f33 f34 f35 f37 f38 f40 f41 f42 f43 f44 f45 f46 f47 f48 f49 f50 f51 f52 f53 f54 f55 f56 f57 f58 f59 f60 f61 f62 f63 f64 f65 f66 f67 f68 f69 f70 : Value} {pf pw_ jf : Nat → Nat} {iw : Nat → Option Nat} {ch inn r : Nat} (hinn : inn ≤ 700) (hiw : ∀ y w, iw y = some w → w ≤ 16) (hx : p.tables.exec = Jvm.exec) (hb : c.code = b_Model_innerPlace) (hml : c.maxLocals = 5) (hown : s.vm.findClass R_Model = some m.cls) (hts : ∀ w ∈ tb, w.before args s = true) (hA : ∀ q, s.heap.size ≤ q → A q) (hF : stF A s) (hK : va_K (dC, dI) cl [(cB, .byte), (cI, .int), (cL, .long), (cZ, .boolean), (cC, .char), (cO, .object "java/lang/Object")] s)
    (kx : ∀  (H : Heap) (locs : List Loc) (ls : Array Slot), va_P (dC, dI) cl [(qm, .inr (13, [f0, f1, f2, f3, f4, f5, f6, f7, f8, f9, f10, f11, f12, f13, f14, f15, f16, .ref q_pinFirst, f18, f19, f20, .ref q_pinWidth, f22, f23, f24, f25, f26, f27, f28, f29, f30, f31, f32, f33, f34, f35, .ref q_innerFirst, f37, f38, .ref q_innerWidth, f40, f41, f42, f43, f44, f45, f46, f47, f48, f49, f50, f51, f52, f53, f54, f55, f56, f57, f58, f59, f60, f61, f62, f63, f64, f65, f66, f67, f68, f69, f70])), (q_pinFirst, .inl (cI, 18, .inl (nF pf))), (q_pinWidth, .inl (cI, 200, .inl (nF pw_))), (q_innerFirst, .inl (cI, 18, .inl (nF jf))), (q_innerWidth, .inl (cI, 700, .inl (oF iw)))] H → va_D A [(qm, .inr (13, [f0, f1, f2, f3, f4, f5, f6, f7, f8, f9, f10, f11, f12, f13, f14, f15, f16, .ref q_pinFirst, f18, f19, f20, .ref q_pinWidth, f22, f23, f24, f25, f26, f27, f28, f29, f30, f31, f32, f33, f34, f35, .ref q_innerFirst, f37, f38, .ref q_innerWidth, f40, f41, f42, f43, f44, f45, f46, f47, f48, f49, f50, f51, f52, f53, f54, f55, f56, f57, f58, f59, f60, f61, f62, f63, f64, f65, f66, f67, f68, f69, f70])), (q_pinFirst, .inl (cI, 18, .inl (nF pf))), (q_pinWidth, .inl (cI, 200, .inl (nF pw_))), (q_innerFirst, .inl (cI, 18, .inl (nF jf))), (q_innerWidth, .inl (cI, 700, .inl (oF iw)))] → va_S A s.heap H locs → lv_has ls 5 [(3, .int (nI r)), (0, .ref qm), (1, .int (nI ch)), (2, .int (nI inn))] → W p l e (headSpec w_Model_innerPlace { frames := 1, cells := 0, slots := 0, locals := 30 }).room s m args below meth c H locs 0 0 Q (F0 m 58 ls [])) :
    ∀ (k : Nat) (i n : Nat) (H : Heap) (locs : List Loc) (ls : Array Slot), 701 < i + k → i ≤ 701 → m_isum iw (inn - i) i n = r → va_P (dC, dI) cl [(qm, .inr (13, [f0, f1, f2, f3, f4, f5, f6, f7, f8, f9, f10, f11, f12, f13, f14, f15, f16, .ref q_pinFirst, f18, f19, f20, .ref q_pinWidth, f22, f23, f24, f25, f26, f27, f28, f29, f30, f31, f32, f33, f34, f35, .ref q_innerFirst, f37, f38, .ref q_innerWidth, f40, f41, f42, f43, f44, f45, f46, f47, f48, f49, f50, f51, f52, f53, f54, f55, f56, f57, f58, f59, f60, f61, f62, f63, f64, f65, f66, f67, f68, f69, f70])), (q_pinFirst, .inl (cI, 18, .inl (nF pf))), (q_pinWidth, .inl (cI, 200, .inl (nF pw_))), (q_innerFirst, .inl (cI, 18, .inl (nF jf))), (q_innerWidth, .inl (cI, 700, .inl (oF iw)))] H → va_D A [(qm, .inr (13, [f0, f1, f2, f3, f4, f5, f6, f7, f8, f9, f10, f11, f12, f13, f14, f15, f16, .ref q_pinFirst, f18, f19, f20, .ref q_pinWidth, f22, f23, f24, f25, f26, f27, f28, f29, f30, f31, f32, f33, f34, f35, .ref q_innerFirst, f37, f38, .ref q_innerWidth, f40, f41, f42, f43, f44, f45, f46, f47, f48, f49, f50, f51, f52, f53, f54, f55, f56, f57, f58, f59, f60, f61, f62, f63, f64, f65, f66, f67, f68, f69, f70])), (q_pinFirst, .inl (cI, 18, .inl (nF pf))), (q_pinWidth, .inl (cI, 200, .inl (nF pw_))), (q_innerFirst, .inl (cI, 18, .inl (nF jf))), (q_innerWidth, .inl (cI, 700, .inl (oF iw)))] → va_S A s.heap H locs → lv_has ls 5 [(4, .int (nI i)), (3, .int (nI n)), (0, .ref qm), (1, .int (nI ch)), (2, .int (nI inn))] → W p l e (headSpec w_Model_innerPlace { frames := 1, cells := 0, slots := 0, locals := 30 }).room s m args below meth c H locs 0 0 Q (F0 m 22 ls []) := by
  intro k
  induction k with
  | zero =>
    intro i n H locs ls hk hi hr hP hD hS hl
    exfalso; omega
  | succ k ih =>
    intro i n H locs ls hk hi hr hP hD hS hl
    refine lv_iload hx hb d_Model_innerPlace_22 (lv_at hl 0 rfl) ?_
    refine lv_iload_n hx hb d_Model_innerPlace_24 rfl (lv_at hl 4 rfl) ?_
    refine nv_icmp_ge (tgt := 58) hx hb (by omega) (by omega) d_Model_innerPlace_25 (by decide) (fun c_1 => ?_) (fun c_1 => ?_)
    · have hri : n = r := by rw [← hr, m_isum_u, if_neg (by omega)]
      subst hri
      exact kx H locs ls hP hD hS (lv_sub hl [1, 2, 3, 4] rfl)
    · refine lv_iload_n hx hb d_Model_innerPlace_28 rfl (lv_at hl 1 rfl) ?_
      refine lv_aload_n hx hb d_Model_innerPlace_29 rfl (lv_at hl 2 rfl) ?_
      refine va_get (D := (dC, dI)) (ci := 13) (v := .ref q_innerWidth) (C := R_Model) (T := F_Model) (N := 71) hx hb hts i_Model hown hK hP 0 rfl rfl 39 (by decide) (hts _ k_913) (fun _ h9 => h9) rfl d_Model_innerPlace_30 ?_
      refine lv_iload hx hb d_Model_innerPlace_33 (lv_at hl 0 rfl) ?_
      refine nv_iald hx hb hK hP 4 1 rfl rfl (by omega) (by decide) d_Model_innerPlace_35 ?_
      refine nv_oif_le (tgt := 49) hx hb (fun z9 h9 => by have := hiw _ z9 h9; omega) d_Model_innerPlace_36 (by decide) (fun c_2 => ?_) (fun c_2 => ?_)
      · refine lv_iconst (v := nI 0) hx hb d_Model_innerPlace_49 (by decide) ?_
        refine nv_iadd hx hb d_Model_innerPlace_50 ?_
        refine lv_istore_n (lv' := [(3, .int (nI (n + 0))), (4, .int (nI i)), (0, .ref qm), (1, .int (nI ch)), (2, .int (nI inn))]) hx hb d_Model_innerPlace_51 rfl hl (by decide) rfl (fun ls hl => ?_)
        refine lv_iinc (v := nI (i + 1)) (lv' := [(4, .int (nI (i + 1))), (3, .int (nI (n + 0))), (0, .ref qm), (1, .int (nI ch)), (2, .int (nI inn))]) hx hb d_Model_innerPlace_52 hl (k := 1) rfl (nI_1 _) (by decide) rfl (fun ls hl => ?_)
        refine lv_goto (tgt := 22) hx hb d_Model_innerPlace_55 (by decide) ?_
        exact ih (i + 1) (n + 0) H locs ls (by omega) (by omega) (by rw [← hr, m_isum_u _ _ i, if_pos (by omega), show (iw i).getD 0 = 0 by cases h9 : iw i with | none => rfl | some w9 => have := c_2 w9 h9; show w9 = 0; omega]) hP hD hS (lv_sub hl [0, 1, 2, 3, 4] rfl)
      · obtain ⟨w0, hw0, hw1⟩ := c_2
        refine lv_aload_n hx hb d_Model_innerPlace_39 rfl (lv_at hl 2 rfl) ?_
        refine va_get (D := (dC, dI)) (ci := 13) (v := .ref q_innerWidth) (C := R_Model) (T := F_Model) (N := 71) hx hb hts i_Model hown hK hP 0 rfl rfl 39 (by decide) (hts _ k_913) (fun _ h9 => h9) rfl d_Model_innerPlace_40 ?_
        refine lv_iload hx hb d_Model_innerPlace_43 (lv_at hl 0 rfl) ?_
        refine nv_iald hx hb hK hP 4 1 rfl rfl (by omega) (by decide) d_Model_innerPlace_45 ?_
        rw [show oF iw i = nI w0 from congrArg oI hw0]
        refine lv_goto (tgt := 50) hx hb d_Model_innerPlace_46 (by decide) ?_
        refine nv_iadd hx hb d_Model_innerPlace_50 ?_
        refine lv_istore_n (lv' := [(3, .int (nI (n + w0))), (4, .int (nI i)), (0, .ref qm), (1, .int (nI ch)), (2, .int (nI inn))]) hx hb d_Model_innerPlace_51 rfl hl (by decide) rfl (fun ls hl => ?_)
        refine lv_iinc (v := nI (i + 1)) (lv' := [(4, .int (nI (i + 1))), (3, .int (nI (n + w0))), (0, .ref qm), (1, .int (nI ch)), (2, .int (nI inn))]) hx hb d_Model_innerPlace_52 hl (k := 1) rfl (nI_1 _) (by decide) rfl (fun ls hl => ?_)
        refine lv_goto (tgt := 22) hx hb d_Model_innerPlace_55 (by decide) ?_
        exact ih (i + 1) (n + w0) H locs ls (by omega) (by omega) (by rw [← hr, m_isum_u _ _ i, if_pos (by omega), show (iw i).getD 0 = w0 by rw [hw0]; rfl]) hP hD hS (lv_sub hl [0, 1, 2, 3, 4] rfl)
set_option maxHeartbeats 4000000 in
set_option maxRecDepth 100000 in
/-- innerPlace(ch, inn) -/
theorem c_Model_innerPlace (l : Launch) (dC : Nat → ClassId) (dI : Nat → Nat → Nat) (cB cI cL cZ cC cO : ClassId) {qm q_pinFirst q_pinWidth q_innerFirst q_innerWidth : Nat}{f0 f1 f2 f3 f4 f5 f6 f7 f8 f9 f10 f11 f12 f13 f14 f15 f16 f18 f19 f20 f22 f23 f24 f25 f26 f27 f28 f29 f30 f31 f32 f33 f34 f35 f37 f38 f40 f41 f42 f43 f44 f45 f46 f47 f48 f49 f50 f51 f52 f53 f54 f55 f56 f57 f58 f59 f60 f61 f62 f63 f64 f65 f66 f67 f68 f69 f70 : Value} (pf pw_ jf : Nat → Nat) (iw : Nat → Option Nat) (ch inn : Nat) (sz : Nat) (hc : ch < 17) (hpf : ∀ j, pf j ≤ 200) (hjf : ∀ j, jf j ≤ 700) (hinn : inn ≤ 700) (hiw : ∀ y w, iw y = some w → w ≤ 16) : Met l y_Model_innerPlace w_Model_innerPlace ({ frames := 1, cells := 0, slots := 0, locals := 30 }) (va_Pc [.ref qm, .int (nI ch), .int (nI inn)] (wB (dC, dI) cl [(cB, .byte), (cI, .int), (cL, .long), (cZ, .boolean), (cC, .char), (cO, .object "java/lang/Object")] sz [(qm, .inr (13, [f0, f1, f2, f3, f4, f5, f6, f7, f8, f9, f10, f11, f12, f13, f14, f15, f16, .ref q_pinFirst, f18, f19, f20, .ref q_pinWidth, f22, f23, f24, f25, f26, f27, f28, f29, f30, f31, f32, f33, f34, f35, .ref q_innerFirst, f37, f38, .ref q_innerWidth, f40, f41, f42, f43, f44, f45, f46, f47, f48, f49, f50, f51, f52, f53, f54, f55, f56, f57, f58, f59, f60, f61, f62, f63, f64, f65, f66, f67, f68, f69, f70])), (q_pinFirst, .inl (cI, 18, .inl (nF pf))), (q_pinWidth, .inl (cI, 200, .inl (nF pw_))), (q_innerFirst, .inl (cI, 18, .inl (nF jf))), (q_innerWidth, .inl (cI, 700, .inl (oF iw)))])) (va_Qi (fun (r : Int32) (u : Unit) => r = nI (m_iplace pf pw_ jf iw ch inn)) (fun _ t => wA (dC, dI) cl [(cB, .byte), (cI, .int), (cL, .long), (cZ, .boolean), (cC, .char), (cO, .object "java/lang/Object")] (va_A [(qm, .inr (13, [f0, f1, f2, f3, f4, f5, f6, f7, f8, f9, f10, f11, f12, f13, f14, f15, f16, .ref q_pinFirst, f18, f19, f20, .ref q_pinWidth, f22, f23, f24, f25, f26, f27, f28, f29, f30, f31, f32, f33, f34, f35, .ref q_innerFirst, f37, f38, .ref q_innerWidth, f40, f41, f42, f43, f44, f45, f46, f47, f48, f49, f50, f51, f52, f53, f54, f55, f56, f57, f58, f59, f60, f61, f62, f63, f64, f65, f66, f67, f68, f69, f70])), (q_pinFirst, .inl (cI, 18, .inl (nF pf))), (q_pinWidth, .inl (cI, 200, .inl (nF pw_))), (q_innerFirst, .inl (cI, 18, .inl (nF jf))), (q_innerWidth, .inl (cI, 700, .inl (oF iw)))] sz) [(qm, .inr (13, [f0, f1, f2, f3, f4, f5, f6, f7, f8, f9, f10, f11, f12, f13, f14, f15, f16, .ref q_pinFirst, f18, f19, f20, .ref q_pinWidth, f22, f23, f24, f25, f26, f27, f28, f29, f30, f31, f32, f33, f34, f35, .ref q_innerFirst, f37, f38, .ref q_innerWidth, f40, f41, f42, f43, f44, f45, f46, f47, f48, f49, f50, f51, f52, f53, f54, f55, f56, f57, f58, f59, f60, f61, f62, f63, f64, f65, f66, f67, f68, f69, f70])), (q_pinFirst, .inl (cI, 18, .inl (nF pf))), (q_pinWidth, .inl (cI, 200, .inl (nF pw_))), (q_innerFirst, .inl (cI, 18, .inl (nF jf))), (q_innerWidth, .inl (cI, 700, .inl (oF iw)))] t) (va_A [(qm, .inr (13, [f0, f1, f2, f3, f4, f5, f6, f7, f8, f9, f10, f11, f12, f13, f14, f15, f16, .ref q_pinFirst, f18, f19, f20, .ref q_pinWidth, f22, f23, f24, f25, f26, f27, f28, f29, f30, f31, f32, f33, f34, f35, .ref q_innerFirst, f37, f38, .ref q_innerWidth, f40, f41, f42, f43, f44, f45, f46, f47, f48, f49, f50, f51, f52, f53, f54, f55, f56, f57, f58, f59, f60, f61, f62, f63, f64, f65, f66, f67, f68, f69, f70])), (q_pinFirst, .inl (cI, 18, .inl (nF pf))), (q_pinWidth, .inl (cI, 200, .inl (nF pw_))), (q_innerFirst, .inl (cI, 18, .inl (nF jf))), (q_innerWidth, .inl (cI, 700, .inl (oF iw)))] sz)) 0 0 (va_A [(qm, .inr (13, [f0, f1, f2, f3, f4, f5, f6, f7, f8, f9, f10, f11, f12, f13, f14, f15, f16, .ref q_pinFirst, f18, f19, f20, .ref q_pinWidth, f22, f23, f24, f25, f26, f27, f28, f29, f30, f31, f32, f33, f34, f35, .ref q_innerFirst, f37, f38, .ref q_innerWidth, f40, f41, f42, f43, f44, f45, f46, f47, f48, f49, f50, f51, f52, f53, f54, f55, f56, f57, f58, f59, f60, f61, f62, f63, f64, f65, f66, f67, f68, f69, f70])), (q_pinFirst, .inl (cI, 18, .inl (nF pf))), (q_pinWidth, .inl (cI, 200, .inl (nF pw_))), (q_innerFirst, .inl (cI, 18, .inl (nF jf))), (q_innerWidth, .inl (cI, 700, .inl (oF iw)))] sz) := by
  refine Met.ofW (cc := b_Model_innerPlace) (maxL := 5) (ret := (some ClassFile.FieldType.int)) (by decide) rfl ?_
  intro p e s m args below meth c s₁ B hml hv
  obtain ⟨rfl, hsz, hP, hK, hD0, hF⟩ := hv
  have hx := B.exec
  have hb := B.bytes
  have hr := B.returns
  have hts := atoms_spec (ws := w_Model_innerPlace) B.pre
  have hts : ∀ w ∈ tb, w.before _ s = true := fun w h => hts w (List.mem_cons_of_mem _ h)
  have hown : s.vm.findClass R_Model = some m.cls := findClass_of_methodNamed B.named
  have hlocks := B.notSynchronized
  subst hsz
  have hD := hD0.self (sz := s.heap.size)
  generalize hAe : va_A [(qm, .inr (13, [f0, f1, f2, f3, f4, f5, f6, f7, f8, f9, f10, f11, f12, f13, f14, f15, f16, .ref q_pinFirst, f18, f19, f20, .ref q_pinWidth, f22, f23, f24, f25, f26, f27, f28, f29, f30, f31, f32, f33, f34, f35, .ref q_innerFirst, f37, f38, .ref q_innerWidth, f40, f41, f42, f43, f44, f45, f46, f47, f48, f49, f50, f51, f52, f53, f54, f55, f56, f57, f58, f59, f60, f61, f62, f63, f64, f65, f66, f67, f68, f69, f70])), (q_pinFirst, .inl (cI, 18, .inl (nF pf))), (q_pinWidth, .inl (cI, 200, .inl (nF pw_))), (q_innerFirst, .inl (cI, 18, .inl (nF jf))), (q_innerWidth, .inl (cI, 700, .inl (oF iw)))] s.heap.size = A at hD hF ⊢
  have hA : ∀ q : Nat, s.heap.size ≤ q → A q := fun q h => by rw [← hAe]; exact Or.inr h
  have hS : va_S A s.heap s.heap [] := va_S.rf
  have hP : va_P (dC, dI) cl [(qm, .inr (13, [f0, f1, f2, f3, f4, f5, f6, f7, f8, f9, f10, f11, f12, f13, f14, f15, f16, .ref q_pinFirst, f18, f19, f20, .ref q_pinWidth, f22, f23, f24, f25, f26, f27, f28, f29, f30, f31, f32, f33, f34, f35, .ref q_innerFirst, f37, f38, .ref q_innerWidth, f40, f41, f42, f43, f44, f45, f46, f47, f48, f49, f50, f51, f52, f53, f54, f55, f56, f57, f58, f59, f60, f61, f62, f63, f64, f65, f66, f67, f68, f69, f70])), (q_pinFirst, .inl (cI, 18, .inl (nF pf))), (q_pinWidth, .inl (cI, 200, .inl (nF pw_))), (q_innerFirst, .inl (cI, 18, .inl (nF jf))), (q_innerWidth, .inl (cI, 700, .inl (oF iw)))] s.heap := hP
  have hl := lv_entry ([.ref qm, .int (nI ch), .int (nI inn)]) (n := 5) (Nat.le_of_ble_eq_true rfl)
  rw [lg_entry_eq]
  generalize (lg_sl ([.ref qm, .int (nI ch), .int (nI inn)]) ++ List.replicate (5 - (lg_sl ([.ref qm, .int (nI ch), .int (nI inn)])).length) Slot.unset).toArray = ls at hl ⊢
  have hl : lv_has ls 5 [(0, .ref qm), (1, .int (nI ch)), (2, .int (nI inn))] := hl
  have hj := hjf ch
  refine lv_aload_n hx hb d_Model_innerPlace_0 rfl (lv_at hl 0 rfl) ?_
  refine lv_iload_n hx hb d_Model_innerPlace_1 rfl (lv_at hl 1 rfl) ?_
  refine lv_aload_n hx hb d_Model_innerPlace_2 rfl (lv_at hl 0 rfl) ?_
  refine va_get (D := (dC, dI)) (ci := 13) (v := .ref q_pinFirst) (C := R_Model) (T := F_Model) (N := 71) hx hb hts i_Model hown hK hP 0 rfl rfl 17 (by decide) (hts _ k_891) (fun _ h9 => h9) rfl d_Model_innerPlace_3 ?_
  refine lv_iload_n hx hb d_Model_innerPlace_6 rfl (lv_at hl 1 rfl) ?_
  refine lv_iconst (v := nI 1) hx hb d_Model_innerPlace_7 (by decide) ?_
  refine nv_iadd hx hb d_Model_innerPlace_8 ?_
  refine nv_iald hx hb hK hP 1 1 rfl rfl (by omega) (by decide) d_Model_innerPlace_9 ?_
  refine wc_i (wc := [(qm, .inr (13, [f0, f1, f2, f3, f4, f5, f6, f7, f8, f9, f10, f11, f12, f13, f14, f15, f16, .ref q_pinFirst, f18, f19, f20, .ref q_pinWidth, f22, f23, f24, f25, f26, f27, f28, f29, f30, f31, f32, f33, f34, f35, .ref q_innerFirst, f37, f38, .ref q_innerWidth, f40, f41, f42, f43, f44, f45, f46, f47, f48, f49, f50, f51, f52, f53, f54, f55, f56, f57, f58, f59, f60, f61, f62, f63, f64, f65, f66, f67, f68, f69, f70])), (q_pinFirst, .inl (cI, 18, .inl (nF pf))), (q_pinWidth, .inl (cI, 200, .inl (nF pw_)))]) (wr := [(q_innerFirst, .inl (cI, 18, .inl (nF jf))), (q_innerWidth, .inl (cI, 700, .inl (oF iw)))]) (va_runV (As := [.int (nI ch), .int (nI (pf (ch + 1)))]) (rest := []) ⟨hx, hb, hml, hown, hts⟩ (c_Model_pinPlace l dC dI cB cI cL cZ cC cO pf pw_ ch (pf (ch + 1)) _ (by omega) (hpf _) (hpf _)) (cwV 2 hts (good_V k_1295 k_1297 s_Model_pinPlace k_19 k_1298) rfl rfl rfl (by decide +kernel) ⟨Nat.le_of_ble_eq_true rfl, Nat.le_of_ble_eq_true rfl⟩) (wc_preV (k0 := 0) (ci := 13) (r := (R_Model, F_Model, 71)) hK hP hD hS hA hF [0, 1, 2] (by decide) rfl rfl rfl) rfl rfl hl.1 rfl (lv_room (Nat.le_of_ble_eq_true rfl)) d_Model_innerPlace_10 ⟨Nat.le_of_ble_eq_true rfl, Nat.le_of_ble_eq_true rfl⟩) hP hD hS hA [0, 1, 2] [3, 4] rfl rfl (by decide) (by decide) (fun r_2 u H locs w_1 hP hD hS => ?_)
  have hP : va_P (dC, dI) cl [(q_innerFirst, .inl (cI, 18, .inl (nF jf))), (q_innerWidth, .inl (cI, 700, .inl (oF iw))), (qm, .inr (13, [f0, f1, f2, f3, f4, f5, f6, f7, f8, f9, f10, f11, f12, f13, f14, f15, f16, .ref q_pinFirst, f18, f19, f20, .ref q_pinWidth, f22, f23, f24, f25, f26, f27, f28, f29, f30, f31, f32, f33, f34, f35, .ref q_innerFirst, f37, f38, .ref q_innerWidth, f40, f41, f42, f43, f44, f45, f46, f47, f48, f49, f50, f51, f52, f53, f54, f55, f56, f57, f58, f59, f60, f61, f62, f63, f64, f65, f66, f67, f68, f69, f70])), (q_pinFirst, .inl (cI, 18, .inl (nF pf))), (q_pinWidth, .inl (cI, 200, .inl (nF pw_)))] H := hP
  have hD : va_D A [(q_innerFirst, .inl (cI, 18, .inl (nF jf))), (q_innerWidth, .inl (cI, 700, .inl (oF iw))), (qm, .inr (13, [f0, f1, f2, f3, f4, f5, f6, f7, f8, f9, f10, f11, f12, f13, f14, f15, f16, .ref q_pinFirst, f18, f19, f20, .ref q_pinWidth, f22, f23, f24, f25, f26, f27, f28, f29, f30, f31, f32, f33, f34, f35, .ref q_innerFirst, f37, f38, .ref q_innerWidth, f40, f41, f42, f43, f44, f45, f46, f47, f48, f49, f50, f51, f52, f53, f54, f55, f56, f57, f58, f59, f60, f61, f62, f63, f64, f65, f66, f67, f68, f69, f70])), (q_pinFirst, .inl (cI, 18, .inl (nF pf))), (q_pinWidth, .inl (cI, 200, .inl (nF pw_)))] := hD
  subst w_1
  refine lv_istore_n (lv' := [(3, .int (nI (m_psum pw_ (pf (ch + 1) - pf ch) (pf ch) 0))), (0, .ref qm), (1, .int (nI ch)), (2, .int (nI inn))]) hx hb d_Model_innerPlace_13 rfl hl (by decide) rfl (fun ls hl => ?_)
  refine lv_aload_n hx hb d_Model_innerPlace_14 rfl (lv_at hl 1 rfl) ?_
  refine va_get (D := (dC, dI)) (ci := 13) (v := .ref q_innerFirst) (C := R_Model) (T := F_Model) (N := 71) hx hb hts i_Model hown hK hP 2 rfl rfl 36 (by decide) (hts _ k_910) (fun _ h9 => h9) rfl d_Model_innerPlace_15 ?_
  refine lv_iload_n hx hb d_Model_innerPlace_18 rfl (lv_at hl 2 rfl) ?_
  refine nv_iald hx hb hK hP 0 1 rfl rfl (by omega) (by decide) d_Model_innerPlace_19 ?_
  refine lv_istore (lv' := [(4, .int (nI (jf ch))), (3, .int (nI (m_psum pw_ (pf (ch + 1) - pf ch) (pf ch) 0))), (0, .ref qm), (1, .int (nI ch)), (2, .int (nI inn))]) hx hb d_Model_innerPlace_20 hl (by decide) rfl (fun ls hl => ?_)
  refine lp_Model_innerPlace (r := m_iplace pf pw_ jf iw ch inn) hinn hiw hx hb hml hown hts hA hF hK (fun H locs ls hP hD hS hl => ?_) 702 (jf ch) (m_psum pw_ (pf (ch + 1) - pf ch) (pf ch) 0) _ _ ls (by omega) (by omega) rfl (hP.sub [2, 3, 4, 0, 1] rfl) (hD.sub [2, 3, 4, 0, 1] (by decide) rfl) hS (lv_sub hl [0, 1, 2, 3, 4] rfl)
  refine lv_iload_n hx hb d_Model_innerPlace_58 rfl (lv_at hl 0 rfl) ?_
  exact wr_i hx hb hr hlocks () rfl hK hP hD hS d_Model_innerPlace_59
theorem d_Model_ownBits_0 : decode b_Model_ownBits 0 = .ok (.aload_n 0, 1) := by decide +kernel
theorem d_Model_ownBits_1 : decode b_Model_ownBits 1 = .ok (.iload_n 1, 1) := by decide +kernel
theorem d_Model_ownBits_2 : decode b_Model_ownBits 2 = .ok (.aload_n 0, 1) := by decide +kernel
theorem d_Model_ownBits_3 : decode b_Model_ownBits 3 = .ok (.getfield 85, 3) := by decide +kernel
theorem d_Model_ownBits_6 : decode b_Model_ownBits 6 = .ok (.iload_n 1, 1) := by decide +kernel
theorem d_Model_ownBits_7 : decode b_Model_ownBits 7 = .ok (.iconst 1, 1) := by decide +kernel
theorem d_Model_ownBits_8 : decode b_Model_ownBits 8 = .ok (.iadd, 1) := by decide +kernel
theorem d_Model_ownBits_9 : decode b_Model_ownBits 9 = .ok (.iaload, 1) := by decide +kernel
theorem d_Model_ownBits_10 : decode b_Model_ownBits 10 = .ok (.invokevirtual 345, 3) := by decide +kernel
theorem d_Model_ownBits_13 : decode b_Model_ownBits 13 = .ok (.ireturn, 1) := by decide +kernel
set_option maxHeartbeats 4000000 in
set_option maxRecDepth 100000 in
/-- ownBits(ch) -/
theorem c_Model_ownBits (l : Launch) (dC : Nat → ClassId) (dI : Nat → Nat → Nat) (cB cI cL cZ cC cO : ClassId) {qm q_pinFirst q_pinWidth q_innerFirst q_innerWidth : Nat}{f0 f1 f2 f3 f4 f5 f6 f7 f8 f9 f10 f11 f12 f13 f14 f15 f16 f18 f19 f20 f22 f23 f24 f25 f26 f27 f28 f29 f30 f31 f32 f33 f34 f35 f37 f38 f40 f41 f42 f43 f44 f45 f46 f47 f48 f49 f50 f51 f52 f53 f54 f55 f56 f57 f58 f59 f60 f61 f62 f63 f64 f65 f66 f67 f68 f69 f70 : Value} (pf pw_ jf : Nat → Nat) (iw : Nat → Option Nat) (ch : Nat) (sz : Nat) (hc : ch < 17) (hpf : ∀ j, pf j ≤ 200) (hjf : ∀ j, jf j ≤ 700) (hiw : ∀ y w, iw y = some w → w ≤ 16) : Met l y_Model_ownBits w_Model_ownBits ({ frames := 2, cells := 0, slots := 0, locals := 60 }) (va_Pc [.ref qm, .int (nI ch)] (wB (dC, dI) cl [(cB, .byte), (cI, .int), (cL, .long), (cZ, .boolean), (cC, .char), (cO, .object "java/lang/Object")] sz [(qm, .inr (13, [f0, f1, f2, f3, f4, f5, f6, f7, f8, f9, f10, f11, f12, f13, f14, f15, f16, .ref q_pinFirst, f18, f19, f20, .ref q_pinWidth, f22, f23, f24, f25, f26, f27, f28, f29, f30, f31, f32, f33, f34, f35, .ref q_innerFirst, f37, f38, .ref q_innerWidth, f40, f41, f42, f43, f44, f45, f46, f47, f48, f49, f50, f51, f52, f53, f54, f55, f56, f57, f58, f59, f60, f61, f62, f63, f64, f65, f66, f67, f68, f69, f70])), (q_pinFirst, .inl (cI, 18, .inl (nF pf))), (q_pinWidth, .inl (cI, 200, .inl (nF pw_))), (q_innerFirst, .inl (cI, 18, .inl (nF jf))), (q_innerWidth, .inl (cI, 700, .inl (oF iw)))])) (va_Qi (fun (r : Int32) (u : Unit) => r = nI (m_iplace pf pw_ jf iw ch (jf (ch + 1)))) (fun _ t => wA (dC, dI) cl [(cB, .byte), (cI, .int), (cL, .long), (cZ, .boolean), (cC, .char), (cO, .object "java/lang/Object")] (va_A [(qm, .inr (13, [f0, f1, f2, f3, f4, f5, f6, f7, f8, f9, f10, f11, f12, f13, f14, f15, f16, .ref q_pinFirst, f18, f19, f20, .ref q_pinWidth, f22, f23, f24, f25, f26, f27, f28, f29, f30, f31, f32, f33, f34, f35, .ref q_innerFirst, f37, f38, .ref q_innerWidth, f40, f41, f42, f43, f44, f45, f46, f47, f48, f49, f50, f51, f52, f53, f54, f55, f56, f57, f58, f59, f60, f61, f62, f63, f64, f65, f66, f67, f68, f69, f70])), (q_pinFirst, .inl (cI, 18, .inl (nF pf))), (q_pinWidth, .inl (cI, 200, .inl (nF pw_))), (q_innerFirst, .inl (cI, 18, .inl (nF jf))), (q_innerWidth, .inl (cI, 700, .inl (oF iw)))] sz) [(qm, .inr (13, [f0, f1, f2, f3, f4, f5, f6, f7, f8, f9, f10, f11, f12, f13, f14, f15, f16, .ref q_pinFirst, f18, f19, f20, .ref q_pinWidth, f22, f23, f24, f25, f26, f27, f28, f29, f30, f31, f32, f33, f34, f35, .ref q_innerFirst, f37, f38, .ref q_innerWidth, f40, f41, f42, f43, f44, f45, f46, f47, f48, f49, f50, f51, f52, f53, f54, f55, f56, f57, f58, f59, f60, f61, f62, f63, f64, f65, f66, f67, f68, f69, f70])), (q_pinFirst, .inl (cI, 18, .inl (nF pf))), (q_pinWidth, .inl (cI, 200, .inl (nF pw_))), (q_innerFirst, .inl (cI, 18, .inl (nF jf))), (q_innerWidth, .inl (cI, 700, .inl (oF iw)))] t) (va_A [(qm, .inr (13, [f0, f1, f2, f3, f4, f5, f6, f7, f8, f9, f10, f11, f12, f13, f14, f15, f16, .ref q_pinFirst, f18, f19, f20, .ref q_pinWidth, f22, f23, f24, f25, f26, f27, f28, f29, f30, f31, f32, f33, f34, f35, .ref q_innerFirst, f37, f38, .ref q_innerWidth, f40, f41, f42, f43, f44, f45, f46, f47, f48, f49, f50, f51, f52, f53, f54, f55, f56, f57, f58, f59, f60, f61, f62, f63, f64, f65, f66, f67, f68, f69, f70])), (q_pinFirst, .inl (cI, 18, .inl (nF pf))), (q_pinWidth, .inl (cI, 200, .inl (nF pw_))), (q_innerFirst, .inl (cI, 18, .inl (nF jf))), (q_innerWidth, .inl (cI, 700, .inl (oF iw)))] sz)) 0 0 (va_A [(qm, .inr (13, [f0, f1, f2, f3, f4, f5, f6, f7, f8, f9, f10, f11, f12, f13, f14, f15, f16, .ref q_pinFirst, f18, f19, f20, .ref q_pinWidth, f22, f23, f24, f25, f26, f27, f28, f29, f30, f31, f32, f33, f34, f35, .ref q_innerFirst, f37, f38, .ref q_innerWidth, f40, f41, f42, f43, f44, f45, f46, f47, f48, f49, f50, f51, f52, f53, f54, f55, f56, f57, f58, f59, f60, f61, f62, f63, f64, f65, f66, f67, f68, f69, f70])), (q_pinFirst, .inl (cI, 18, .inl (nF pf))), (q_pinWidth, .inl (cI, 200, .inl (nF pw_))), (q_innerFirst, .inl (cI, 18, .inl (nF jf))), (q_innerWidth, .inl (cI, 700, .inl (oF iw)))] sz) := by
  refine Met.ofW (cc := b_Model_ownBits) (maxL := 2) (ret := (some ClassFile.FieldType.int)) (by decide) rfl ?_
  intro p e s m args below meth c s₁ B hml hv
  obtain ⟨rfl, hsz, hP, hK, hD0, hF⟩ := hv
  have hx := B.exec
  have hb := B.bytes
  have hr := B.returns
  have hts := atoms_spec (ws := w_Model_ownBits) B.pre
  have hts : ∀ w ∈ tb, w.before _ s = true := fun w h => hts w (List.mem_cons_of_mem _ h)
  have hown : s.vm.findClass R_Model = some m.cls := findClass_of_methodNamed B.named
  have hlocks := B.notSynchronized
  subst hsz
  have hD := hD0.self (sz := s.heap.size)
  generalize hAe : va_A [(qm, .inr (13, [f0, f1, f2, f3, f4, f5, f6, f7, f8, f9, f10, f11, f12, f13, f14, f15, f16, .ref q_pinFirst, f18, f19, f20, .ref q_pinWidth, f22, f23, f24, f25, f26, f27, f28, f29, f30, f31, f32, f33, f34, f35, .ref q_innerFirst, f37, f38, .ref q_innerWidth, f40, f41, f42, f43, f44, f45, f46, f47, f48, f49, f50, f51, f52, f53, f54, f55, f56, f57, f58, f59, f60, f61, f62, f63, f64, f65, f66, f67, f68, f69, f70])), (q_pinFirst, .inl (cI, 18, .inl (nF pf))), (q_pinWidth, .inl (cI, 200, .inl (nF pw_))), (q_innerFirst, .inl (cI, 18, .inl (nF jf))), (q_innerWidth, .inl (cI, 700, .inl (oF iw)))] s.heap.size = A at hD hF ⊢
  have hA : ∀ q : Nat, s.heap.size ≤ q → A q := fun q h => by rw [← hAe]; exact Or.inr h
  have hS : va_S A s.heap s.heap [] := va_S.rf
  have hP : va_P (dC, dI) cl [(qm, .inr (13, [f0, f1, f2, f3, f4, f5, f6, f7, f8, f9, f10, f11, f12, f13, f14, f15, f16, .ref q_pinFirst, f18, f19, f20, .ref q_pinWidth, f22, f23, f24, f25, f26, f27, f28, f29, f30, f31, f32, f33, f34, f35, .ref q_innerFirst, f37, f38, .ref q_innerWidth, f40, f41, f42, f43, f44, f45, f46, f47, f48, f49, f50, f51, f52, f53, f54, f55, f56, f57, f58, f59, f60, f61, f62, f63, f64, f65, f66, f67, f68, f69, f70])), (q_pinFirst, .inl (cI, 18, .inl (nF pf))), (q_pinWidth, .inl (cI, 200, .inl (nF pw_))), (q_innerFirst, .inl (cI, 18, .inl (nF jf))), (q_innerWidth, .inl (cI, 700, .inl (oF iw)))] s.heap := hP
  have hl := lv_entry ([.ref qm, .int (nI ch)]) (n := 2) (Nat.le_of_ble_eq_true rfl)
  rw [lg_entry_eq]
  generalize (lg_sl ([.ref qm, .int (nI ch)]) ++ List.replicate (2 - (lg_sl ([.ref qm, .int (nI ch)])).length) Slot.unset).toArray = ls at hl ⊢
  have hl : lv_has ls 2 [(0, .ref qm), (1, .int (nI ch))] := hl
  refine lv_aload_n hx hb d_Model_ownBits_0 rfl (lv_at hl 0 rfl) ?_
  refine lv_iload_n hx hb d_Model_ownBits_1 rfl (lv_at hl 1 rfl) ?_
  refine lv_aload_n hx hb d_Model_ownBits_2 rfl (lv_at hl 0 rfl) ?_
  refine va_get (D := (dC, dI)) (ci := 13) (v := .ref q_innerFirst) (C := R_Model) (T := F_Model) (N := 71) hx hb hts i_Model hown hK hP 0 rfl rfl 36 (by decide) (hts _ k_910) (fun _ h9 => h9) rfl d_Model_ownBits_3 ?_
  refine lv_iload_n hx hb d_Model_ownBits_6 rfl (lv_at hl 1 rfl) ?_
  refine lv_iconst (v := nI 1) hx hb d_Model_ownBits_7 (by decide) ?_
  refine nv_iadd hx hb d_Model_ownBits_8 ?_
  refine nv_iald hx hb hK hP 3 1 rfl rfl (by omega) (by decide) d_Model_ownBits_9 ?_
  refine wc_i (wc := [(qm, .inr (13, [f0, f1, f2, f3, f4, f5, f6, f7, f8, f9, f10, f11, f12, f13, f14, f15, f16, .ref q_pinFirst, f18, f19, f20, .ref q_pinWidth, f22, f23, f24, f25, f26, f27, f28, f29, f30, f31, f32, f33, f34, f35, .ref q_innerFirst, f37, f38, .ref q_innerWidth, f40, f41, f42, f43, f44, f45, f46, f47, f48, f49, f50, f51, f52, f53, f54, f55, f56, f57, f58, f59, f60, f61, f62, f63, f64, f65, f66, f67, f68, f69, f70])), (q_pinFirst, .inl (cI, 18, .inl (nF pf))), (q_pinWidth, .inl (cI, 200, .inl (nF pw_))), (q_innerFirst, .inl (cI, 18, .inl (nF jf))), (q_innerWidth, .inl (cI, 700, .inl (oF iw)))]) (wr := []) (va_runV (As := [.int (nI ch), .int (nI (jf (ch + 1)))]) (rest := []) ⟨hx, hb, hml, hown, hts⟩ (c_Model_innerPlace l dC dI cB cI cL cZ cC cO pf pw_ jf iw ch (jf (ch + 1)) _ hc hpf hjf (hjf _) hiw) (cwV 2 hts (good_V k_1291 k_1293 s_Model_innerPlace k_19 k_1294) rfl rfl rfl (by decide +kernel) ⟨Nat.le_of_ble_eq_true rfl, Nat.le_of_ble_eq_true rfl⟩) (wc_preV (k0 := 0) (ci := 13) (r := (R_Model, F_Model, 71)) hK hP hD hS hA hF [0, 1, 2, 3, 4] (by decide) rfl rfl rfl) rfl rfl hl.1 rfl (lv_room (Nat.le_of_ble_eq_true rfl)) d_Model_ownBits_10 ⟨Nat.le_of_ble_eq_true rfl, Nat.le_of_ble_eq_true rfl⟩) hP hD hS hA [0, 1, 2, 3, 4] [] rfl rfl (by decide) (by decide) (fun r_2 u H locs w_1 hP hD hS => ?_)
  have hP : va_P (dC, dI) cl [(qm, .inr (13, [f0, f1, f2, f3, f4, f5, f6, f7, f8, f9, f10, f11, f12, f13, f14, f15, f16, .ref q_pinFirst, f18, f19, f20, .ref q_pinWidth, f22, f23, f24, f25, f26, f27, f28, f29, f30, f31, f32, f33, f34, f35, .ref q_innerFirst, f37, f38, .ref q_innerWidth, f40, f41, f42, f43, f44, f45, f46, f47, f48, f49, f50, f51, f52, f53, f54, f55, f56, f57, f58, f59, f60, f61, f62, f63, f64, f65, f66, f67, f68, f69, f70])), (q_pinFirst, .inl (cI, 18, .inl (nF pf))), (q_pinWidth, .inl (cI, 200, .inl (nF pw_))), (q_innerFirst, .inl (cI, 18, .inl (nF jf))), (q_innerWidth, .inl (cI, 700, .inl (oF iw)))] H := hP
  have hD : va_D A [(qm, .inr (13, [f0, f1, f2, f3, f4, f5, f6, f7, f8, f9, f10, f11, f12, f13, f14, f15, f16, .ref q_pinFirst, f18, f19, f20, .ref q_pinWidth, f22, f23, f24, f25, f26, f27, f28, f29, f30, f31, f32, f33, f34, f35, .ref q_innerFirst, f37, f38, .ref q_innerWidth, f40, f41, f42, f43, f44, f45, f46, f47, f48, f49, f50, f51, f52, f53, f54, f55, f56, f57, f58, f59, f60, f61, f62, f63, f64, f65, f66, f67, f68, f69, f70])), (q_pinFirst, .inl (cI, 18, .inl (nF pf))), (q_pinWidth, .inl (cI, 200, .inl (nF pw_))), (q_innerFirst, .inl (cI, 18, .inl (nF jf))), (q_innerWidth, .inl (cI, 700, .inl (oF iw)))] := hD
  subst w_1
  exact wr_i hx hb hr hlocks () rfl hK hP hD hS d_Model_ownBits_13
theorem d_Model_settle_0 : decode b_Model_settle 0 = .ok (.iconst 0, 1) := by decide +kernel
theorem d_Model_settle_1 : decode b_Model_settle 1 = .ok (.istore_n 1, 1) := by decide +kernel
theorem d_Model_settle_2 : decode b_Model_settle 2 = .ok (.iload_n 1, 1) := by decide +kernel
theorem d_Model_settle_3 : decode b_Model_settle 3 = .ok (.aload_n 0, 1) := by decide +kernel
theorem d_Model_settle_4 : decode b_Model_settle 4 = .ok (.getfield 376, 3) := by decide +kernel
theorem d_Model_settle_7 : decode b_Model_settle 7 = .ok (.if_icmp .ge 52, 3) := by decide +kernel
theorem d_Model_settle_10 : decode b_Model_settle 10 = .ok (.aload_n 0, 1) := by decide +kernel
theorem d_Model_settle_11 : decode b_Model_settle 11 = .ok (.getfield 137, 3) := by decide +kernel
theorem d_Model_settle_14 : decode b_Model_settle 14 = .ok (.iload_n 1, 1) := by decide +kernel
theorem d_Model_settle_15 : decode b_Model_settle 15 = .ok (.iaload, 1) := by decide +kernel
theorem d_Model_settle_16 : decode b_Model_settle 16 = .ok (.istore_n 2, 1) := by decide +kernel
theorem d_Model_settle_17 : decode b_Model_settle 17 = .ok (.aload_n 0, 1) := by decide +kernel
theorem d_Model_settle_18 : decode b_Model_settle 18 = .ok (.getfield 146, 3) := by decide +kernel
theorem d_Model_settle_21 : decode b_Model_settle 21 = .ok (.aload_n 0, 1) := by decide +kernel
theorem d_Model_settle_22 : decode b_Model_settle 22 = .ok (.getfield 131, 3) := by decide +kernel
theorem d_Model_settle_25 : decode b_Model_settle 25 = .ok (.iload_n 2, 1) := by decide +kernel
theorem d_Model_settle_26 : decode b_Model_settle 26 = .ok (.iaload, 1) := by decide +kernel
theorem d_Model_settle_27 : decode b_Model_settle 27 = .ok (.iconst 2, 1) := by decide +kernel
theorem d_Model_settle_28 : decode b_Model_settle 28 = .ok (.iadd, 1) := by decide +kernel
theorem d_Model_settle_29 : decode b_Model_settle 29 = .ok (.iconst 1, 1) := by decide +kernel
theorem d_Model_settle_30 : decode b_Model_settle 30 = .ok (.aload_n 0, 1) := by decide +kernel
theorem d_Model_settle_31 : decode b_Model_settle 31 = .ok (.aload_n 0, 1) := by decide +kernel
theorem d_Model_settle_32 : decode b_Model_settle 32 = .ok (.getfield 140, 3) := by decide +kernel
theorem d_Model_settle_35 : decode b_Model_settle 35 = .ok (.iload_n 2, 1) := by decide +kernel
theorem d_Model_settle_36 : decode b_Model_settle 36 = .ok (.iaload, 1) := by decide +kernel
theorem d_Model_settle_37 : decode b_Model_settle 37 = .ok (.invokevirtual 382, 3) := by decide +kernel
theorem d_Model_settle_40 : decode b_Model_settle 40 = .ok (.aload_n 0, 1) := by decide +kernel
theorem d_Model_settle_41 : decode b_Model_settle 41 = .ok (.aload_n 0, 1) := by decide +kernel
theorem d_Model_settle_42 : decode b_Model_settle 42 = .ok (.getfield 143, 3) := by decide +kernel
theorem d_Model_settle_45 : decode b_Model_settle 45 = .ok (.iload_n 2, 1) := by decide +kernel
theorem d_Model_settle_46 : decode b_Model_settle 46 = .ok (.iaload, 1) := by decide +kernel
theorem d_Model_settle_47 : decode b_Model_settle 47 = .ok (.invokevirtual 382, 3) := by decide +kernel
theorem d_Model_settle_50 : decode b_Model_settle 50 = .ok (.imul, 1) := by decide +kernel
theorem d_Model_settle_51 : decode b_Model_settle 51 = .ok (.isub, 1) := by decide +kernel
theorem d_Model_settle_52 : decode b_Model_settle 52 = .ok (.iastore, 1) := by decide +kernel
theorem d_Model_settle_53 : decode b_Model_settle 53 = .ok (.iinc 1 1, 3) := by decide +kernel
theorem d_Model_settle_56 : decode b_Model_settle 56 = .ok (.goto (-54), 3) := by decide +kernel
theorem d_Model_settle_59 : decode b_Model_settle 59 = .ok (.return_, 1) := by decide +kernel
def st1 (gi ga gb : Nat → Nat) (bv : Nat → Nat) (x : Nat) : Nat → Nat := va_up bv (gi x + 2) (1 - vo bv (ga x) * vo bv (gb x))
def st_set (go gi ga gb : Nat → Nat) : Nat → Nat → (Nat → Nat) → Nat → Nat
  | 0, _, bv => bv
  | k + 1, i, bv => st_set go gi ga gb k (i + 1) (st1 gi ga gb bv (go i))
theorem st_set_u (go gi ga gb : Nat → Nat) (n i : Nat) (bv : Nat → Nat) : st_set go gi ga gb (n - i) i bv = if i < n then st_set go gi ga gb (n - (i + 1)) (i + 1) (st1 gi ga gb bv (go i)) else bv := by
  by_cases h : i < n
  · rw [if_pos h, show n - i = (n - (i + 1)) + 1 by omega]; rfl
  · rw [if_neg h, show n - i = 0 by omega]; rfl
theorem st1_le {gi ga gb bv : Nat → Nat} {x : Nat} (h : ∀ i, bv i ≤ 1) : ∀ i, st1 gi ga gb bv x i ≤ 1 := by
  intro i; unfold st1 va_up; split
  · omega
  · exact h i
theorem st_set_le {go gi ga gb : Nat → Nat} : ∀ k i bv, (∀ j, bv j ≤ 1) → ∀ j, st_set go gi ga gb k i bv j ≤ 1
  | 0, _, _, h => h
  | k + 1, i, bv, h => st_set_le k (i + 1) _ (st1_le h)
theorem vo_mul {bv : Nat → Nat} (h : ∀ i, bv i ≤ 1) (a b : Nat) : vo bv a * vo bv b ≤ 1 := by
  have h1 := vo_le h a
  have h2 := vo_le h b
  calc vo bv a * vo bv b ≤ 1 * 1 := Nat.mul_le_mul h1 h2
    _ = 1 := rfl
set_option maxHeartbeats 4000000 in
set_option maxRecDepth 100000 in
theorem lp_Model_settle {p : Program} {l : Launch} {e : Env} {s : State} {m : MethodId} {args : Array Value} {below : List Frame} {meth : Method} {c : Code} {Q : State → Prop} {A : Nat → Prop} {dC : Nat → ClassId} {dI : Nat → Nat → Nat} {cB cI cL cZ cC cO : ClassId} {qm q_gateOrder q_bitValue q_gateIn q_gateA q_gateB : Nat}{f0 f1 f2 f3 f4 f5 f6 f7 f8 f9 f10 f11 f12 f13 f14 f15 f16 f17 f18 f19 f20 f21 f22 f23 f24 f25 f26 f27 f28 f29 f30 f31 f32 f33 f34 f35 f36 f37 f38 f39 f40 f41 f42 f43 f44 f45 f46 f47 f48 f49 f50 f51 f52 f53 f54 f55 f56 f57 f59 f65 f66 f67 f68 f69 f70 : Value} {od : Nat} {go gi ga gb F : Nat → Nat} (hod : od ≤ 300) (hgo : ∀ i, i < od → go i < 300 ∧ gi (go i) + 2 < 8000 ∧ ga (go i) < 8002 ∧ gb (go i) < 8002) (hx : p.tables.exec = Jvm.exec) (hb : c.code = b_Model_settle) (hml : c.maxLocals = 3) (hown : s.vm.findClass R_Model = some m.cls) (hts : ∀ w ∈ tb, w.before args s = true) (hA : ∀ q, s.heap.size ≤ q → A q) (hF : stF A s) (hK : va_K (dC, dI) cl [(cB, .byte), (cI, .int), (cL, .long), (cZ, .boolean), (cC, .char), (cO, .object "java/lang/Object")] s)
    (kx : ∀  (H : Heap) (locs : List Loc) (ls : Array Slot), va_P (dC, dI) cl [(qm, .inr (13, [f0, f1, f2, f3, f4, f5, f6, f7, f8, f9, f10, f11, f12, f13, f14, f15, f16, f17, f18, f19, f20, f21, f22, f23, f24, f25, f26, f27, f28, f29, f30, f31, f32, f33, f34, f35, f36, f37, f38, f39, f40, f41, f42, f43, f44, f45, f46, f47, f48, f49, f50, f51, f52, f53, f54, f55, f56, f57, .ref q_gateIn, f59, .ref q_gateOrder, .int (nI od), .ref q_gateA, .ref q_gateB, .ref q_bitValue, f65, f66, f67, f68, f69, f70])), (q_gateOrder, .inl (cI, 300, .inl (nF go))), (q_bitValue, .inl (cI, 8000, .inl (nF F))), (q_gateIn, .inl (cI, 300, .inl (nF gi))), (q_gateA, .inl (cI, 300, .inl (zF ga))), (q_gateB, .inl (cI, 300, .inl (zF gb)))] H → va_D A [(qm, .inr (13, [f0, f1, f2, f3, f4, f5, f6, f7, f8, f9, f10, f11, f12, f13, f14, f15, f16, f17, f18, f19, f20, f21, f22, f23, f24, f25, f26, f27, f28, f29, f30, f31, f32, f33, f34, f35, f36, f37, f38, f39, f40, f41, f42, f43, f44, f45, f46, f47, f48, f49, f50, f51, f52, f53, f54, f55, f56, f57, .ref q_gateIn, f59, .ref q_gateOrder, .int (nI od), .ref q_gateA, .ref q_gateB, .ref q_bitValue, f65, f66, f67, f68, f69, f70])), (q_gateOrder, .inl (cI, 300, .inl (nF go))), (q_bitValue, .inl (cI, 8000, .inl (nF F))), (q_gateIn, .inl (cI, 300, .inl (nF gi))), (q_gateA, .inl (cI, 300, .inl (zF ga))), (q_gateB, .inl (cI, 300, .inl (zF gb)))] → va_S A s.heap H locs → lv_has ls 3 [(0, .ref qm)] → W p l e (headSpec w_Model_settle { frames := 1, cells := 0, slots := 0, locals := 30 }).room s m args below meth c H locs 0 0 Q (F0 m 59 ls [])) :
    ∀ (k : Nat) (i : Nat) (bv : Nat → Nat) (H : Heap) (locs : List Loc) (ls : Array Slot), od < i + k → i ≤ od → (∀ j, bv j ≤ 1) → st_set go gi ga gb (od - i) i bv = F → va_P (dC, dI) cl [(qm, .inr (13, [f0, f1, f2, f3, f4, f5, f6, f7, f8, f9, f10, f11, f12, f13, f14, f15, f16, f17, f18, f19, f20, f21, f22, f23, f24, f25, f26, f27, f28, f29, f30, f31, f32, f33, f34, f35, f36, f37, f38, f39, f40, f41, f42, f43, f44, f45, f46, f47, f48, f49, f50, f51, f52, f53, f54, f55, f56, f57, .ref q_gateIn, f59, .ref q_gateOrder, .int (nI od), .ref q_gateA, .ref q_gateB, .ref q_bitValue, f65, f66, f67, f68, f69, f70])), (q_gateOrder, .inl (cI, 300, .inl (nF go))), (q_bitValue, .inl (cI, 8000, .inl (nF bv))), (q_gateIn, .inl (cI, 300, .inl (nF gi))), (q_gateA, .inl (cI, 300, .inl (zF ga))), (q_gateB, .inl (cI, 300, .inl (zF gb)))] H → va_D A [(qm, .inr (13, [f0, f1, f2, f3, f4, f5, f6, f7, f8, f9, f10, f11, f12, f13, f14, f15, f16, f17, f18, f19, f20, f21, f22, f23, f24, f25, f26, f27, f28, f29, f30, f31, f32, f33, f34, f35, f36, f37, f38, f39, f40, f41, f42, f43, f44, f45, f46, f47, f48, f49, f50, f51, f52, f53, f54, f55, f56, f57, .ref q_gateIn, f59, .ref q_gateOrder, .int (nI od), .ref q_gateA, .ref q_gateB, .ref q_bitValue, f65, f66, f67, f68, f69, f70])), (q_gateOrder, .inl (cI, 300, .inl (nF go))), (q_bitValue, .inl (cI, 8000, .inl (nF bv))), (q_gateIn, .inl (cI, 300, .inl (nF gi))), (q_gateA, .inl (cI, 300, .inl (zF ga))), (q_gateB, .inl (cI, 300, .inl (zF gb)))] → va_S A s.heap H locs → lv_has ls 3 [(1, .int (nI i)), (0, .ref qm)] → W p l e (headSpec w_Model_settle { frames := 1, cells := 0, slots := 0, locals := 30 }).room s m args below meth c H locs 0 0 Q (F0 m 2 ls []) := by
  intro k
  induction k with
  | zero =>
    intro i bv H locs ls hk hi hbv hr hP hD hS hl
    exfalso; omega
  | succ k ih =>
    intro i bv H locs ls hk hi hbv hr hP hD hS hl
    refine lv_iload_n hx hb d_Model_settle_2 rfl (lv_at hl 0 rfl) ?_
    refine lv_aload_n hx hb d_Model_settle_3 rfl (lv_at hl 1 rfl) ?_
    refine va_get (D := (dC, dI)) (ci := 13) (v := .int (nI od)) (C := R_Model) (T := F_Model) (N := 71) hx hb hts i_Model hown hK hP 0 rfl rfl 61 (by decide) (hts _ k_935) (fun _ h9 => h9) rfl d_Model_settle_4 ?_
    refine nv_icmp_ge (tgt := 59) hx hb (by omega) (by omega) d_Model_settle_7 (by decide) (fun c_1 => ?_) (fun c_1 => ?_)
    · have hri : bv = F := by rw [← hr, st_set_u, if_neg (by omega)]
      subst hri
      exact kx H locs ls hP hD hS (lv_sub hl [1] rfl)
    · obtain ⟨g1, g2, g3, g4⟩ := hgo i (by omega)
      refine lv_aload_n hx hb d_Model_settle_10 rfl (lv_at hl 1 rfl) ?_
      refine va_get (D := (dC, dI)) (ci := 13) (v := .ref q_gateOrder) (C := R_Model) (T := F_Model) (N := 71) hx hb hts i_Model hown hK hP 0 rfl rfl 60 (by decide) (hts _ k_934) (fun _ h9 => h9) rfl d_Model_settle_11 ?_
      refine lv_iload_n hx hb d_Model_settle_14 rfl (lv_at hl 0 rfl) ?_
      refine nv_iald hx hb hK hP 1 1 rfl rfl (by omega) (by decide) d_Model_settle_15 ?_
      refine lv_istore_n (lv' := [(2, .int (nI (go i))), (1, .int (nI i)), (0, .ref qm)]) hx hb d_Model_settle_16 rfl hl (by decide) rfl (fun ls hl => ?_)
      refine lv_aload_n hx hb d_Model_settle_17 rfl (lv_at hl 2 rfl) ?_
      refine va_get (D := (dC, dI)) (ci := 13) (v := .ref q_bitValue) (C := R_Model) (T := F_Model) (N := 71) hx hb hts i_Model hown hK hP 0 rfl rfl 64 (by decide) (hts _ k_938) (fun _ h9 => h9) rfl d_Model_settle_18 ?_
      refine lv_aload_n hx hb d_Model_settle_21 rfl (lv_at hl 2 rfl) ?_
      refine va_get (D := (dC, dI)) (ci := 13) (v := .ref q_gateIn) (C := R_Model) (T := F_Model) (N := 71) hx hb hts i_Model hown hK hP 0 rfl rfl 58 (by decide) (hts _ k_932) (fun _ h9 => h9) rfl d_Model_settle_22 ?_
      refine lv_iload_n hx hb d_Model_settle_25 rfl (lv_at hl 0 rfl) ?_
      refine nv_iald hx hb hK hP 3 1 rfl rfl (by omega) (by decide) d_Model_settle_26 ?_
      refine lv_iconst (v := nI 2) hx hb d_Model_settle_27 (by decide) ?_
      refine nv_iadd hx hb d_Model_settle_28 ?_
      refine lv_iconst (v := nI 1) hx hb d_Model_settle_29 (by decide) ?_
      refine lv_aload_n hx hb d_Model_settle_30 rfl (lv_at hl 2 rfl) ?_
      refine lv_aload_n hx hb d_Model_settle_31 rfl (lv_at hl 2 rfl) ?_
      refine va_get (D := (dC, dI)) (ci := 13) (v := .ref q_gateA) (C := R_Model) (T := F_Model) (N := 71) hx hb hts i_Model hown hK hP 0 rfl rfl 62 (by decide) (hts _ k_936) (fun _ h9 => h9) rfl d_Model_settle_32 ?_
      refine lv_iload_n hx hb d_Model_settle_35 rfl (lv_at hl 0 rfl) ?_
      refine nv_iald hx hb hK hP 4 1 rfl rfl (by omega) (by decide) d_Model_settle_36 ?_
      refine wc_i (wc := [(qm, .inr (13, [f0, f1, f2, f3, f4, f5, f6, f7, f8, f9, f10, f11, f12, f13, f14, f15, f16, f17, f18, f19, f20, f21, f22, f23, f24, f25, f26, f27, f28, f29, f30, f31, f32, f33, f34, f35, f36, f37, f38, f39, f40, f41, f42, f43, f44, f45, f46, f47, f48, f49, f50, f51, f52, f53, f54, f55, f56, f57, .ref q_gateIn, f59, .ref q_gateOrder, .int (nI od), .ref q_gateA, .ref q_gateB, .ref q_bitValue, f65, f66, f67, f68, f69, f70])), (q_bitValue, .inl (cI, 8000, .inl (nF bv)))]) (wr := [(q_gateOrder, .inl (cI, 300, .inl (nF go))), (q_gateIn, .inl (cI, 300, .inl (nF gi))), (q_gateA, .inl (cI, 300, .inl (zF ga))), (q_gateB, .inl (cI, 300, .inl (zF gb)))]) (va_runV (As := [.int (zI (ga (go i)))]) (rest := [.int (nI 1), .int (nI ((gi (go i)) + 2)), .ref q_bitValue]) ⟨hx, hb, hml, hown, hts⟩ (c_Model_valueOf l dC dI cB cI cL cZ cC cO bv (ga (go i)) _ (by omega)) (cwV 1 hts (good_V k_1327 k_1329 s_Model_valueOf k_19 k_1330) rfl rfl rfl (by decide +kernel) ⟨Nat.le_of_ble_eq_true rfl, Nat.le_of_ble_eq_true rfl⟩) (wc_preV (k0 := 0) (ci := 13) (r := (R_Model, F_Model, 71)) hK hP hD hS hA hF [0, 2] (by decide) rfl rfl rfl) rfl rfl hl.1 rfl (lv_room (Nat.le_of_ble_eq_true rfl)) d_Model_settle_37 ⟨Nat.le_of_ble_eq_true rfl, Nat.le_of_ble_eq_true rfl⟩) hP hD hS hA [0, 2] [1, 3, 4, 5] rfl rfl (by decide) (by decide) (fun r_3 u H locs w_2 hP hD hS => ?_)
      have hP : va_P (dC, dI) cl [(q_gateOrder, .inl (cI, 300, .inl (nF go))), (q_gateIn, .inl (cI, 300, .inl (nF gi))), (q_gateA, .inl (cI, 300, .inl (zF ga))), (q_gateB, .inl (cI, 300, .inl (zF gb))), (qm, .inr (13, [f0, f1, f2, f3, f4, f5, f6, f7, f8, f9, f10, f11, f12, f13, f14, f15, f16, f17, f18, f19, f20, f21, f22, f23, f24, f25, f26, f27, f28, f29, f30, f31, f32, f33, f34, f35, f36, f37, f38, f39, f40, f41, f42, f43, f44, f45, f46, f47, f48, f49, f50, f51, f52, f53, f54, f55, f56, f57, .ref q_gateIn, f59, .ref q_gateOrder, .int (nI od), .ref q_gateA, .ref q_gateB, .ref q_bitValue, f65, f66, f67, f68, f69, f70])), (q_bitValue, .inl (cI, 8000, .inl (nF bv)))] H := hP
      have hD : va_D A [(q_gateOrder, .inl (cI, 300, .inl (nF go))), (q_gateIn, .inl (cI, 300, .inl (nF gi))), (q_gateA, .inl (cI, 300, .inl (zF ga))), (q_gateB, .inl (cI, 300, .inl (zF gb))), (qm, .inr (13, [f0, f1, f2, f3, f4, f5, f6, f7, f8, f9, f10, f11, f12, f13, f14, f15, f16, f17, f18, f19, f20, f21, f22, f23, f24, f25, f26, f27, f28, f29, f30, f31, f32, f33, f34, f35, f36, f37, f38, f39, f40, f41, f42, f43, f44, f45, f46, f47, f48, f49, f50, f51, f52, f53, f54, f55, f56, f57, .ref q_gateIn, f59, .ref q_gateOrder, .int (nI od), .ref q_gateA, .ref q_gateB, .ref q_bitValue, f65, f66, f67, f68, f69, f70])), (q_bitValue, .inl (cI, 8000, .inl (nF bv)))] := hD
      subst w_2
      refine lv_aload_n hx hb d_Model_settle_40 rfl (lv_at hl 2 rfl) ?_
      refine lv_aload_n hx hb d_Model_settle_41 rfl (lv_at hl 2 rfl) ?_
      refine va_get (D := (dC, dI)) (ci := 13) (v := .ref q_gateB) (C := R_Model) (T := F_Model) (N := 71) hx hb hts i_Model hown hK hP 4 rfl rfl 63 (by decide) (hts _ k_937) (fun _ h9 => h9) rfl d_Model_settle_42 ?_
      refine lv_iload_n hx hb d_Model_settle_45 rfl (lv_at hl 0 rfl) ?_
      refine nv_iald hx hb hK hP 3 1 rfl rfl (by omega) (by decide) d_Model_settle_46 ?_
      refine wc_i (wc := [(qm, .inr (13, [f0, f1, f2, f3, f4, f5, f6, f7, f8, f9, f10, f11, f12, f13, f14, f15, f16, f17, f18, f19, f20, f21, f22, f23, f24, f25, f26, f27, f28, f29, f30, f31, f32, f33, f34, f35, f36, f37, f38, f39, f40, f41, f42, f43, f44, f45, f46, f47, f48, f49, f50, f51, f52, f53, f54, f55, f56, f57, .ref q_gateIn, f59, .ref q_gateOrder, .int (nI od), .ref q_gateA, .ref q_gateB, .ref q_bitValue, f65, f66, f67, f68, f69, f70])), (q_bitValue, .inl (cI, 8000, .inl (nF bv)))]) (wr := [(q_gateOrder, .inl (cI, 300, .inl (nF go))), (q_gateIn, .inl (cI, 300, .inl (nF gi))), (q_gateA, .inl (cI, 300, .inl (zF ga))), (q_gateB, .inl (cI, 300, .inl (zF gb)))]) (va_runV (As := [.int (zI (gb (go i)))]) (rest := [.int (nI (vo bv (ga (go i)))), .int (nI 1), .int (nI ((gi (go i)) + 2)), .ref q_bitValue]) ⟨hx, hb, hml, hown, hts⟩ (c_Model_valueOf l dC dI cB cI cL cZ cC cO bv (gb (go i)) _ (by omega)) (cwV 1 hts (good_V k_1327 k_1329 s_Model_valueOf k_19 k_1330) rfl rfl rfl (by decide +kernel) ⟨Nat.le_of_ble_eq_true rfl, Nat.le_of_ble_eq_true rfl⟩) (wc_preV (k0 := 4) (ci := 13) (r := (R_Model, F_Model, 71)) hK hP hD hS hA hF [4, 5] (by decide) rfl rfl rfl) rfl rfl hl.1 rfl (lv_room (Nat.le_of_ble_eq_true rfl)) d_Model_settle_47 ⟨Nat.le_of_ble_eq_true rfl, Nat.le_of_ble_eq_true rfl⟩) hP hD hS hA [4, 5] [0, 1, 2, 3] rfl rfl (by decide) (by decide) (fun r_5 u H locs w_4 hP hD hS => ?_)
      have hP : va_P (dC, dI) cl [(q_gateOrder, .inl (cI, 300, .inl (nF go))), (q_gateIn, .inl (cI, 300, .inl (nF gi))), (q_gateA, .inl (cI, 300, .inl (zF ga))), (q_gateB, .inl (cI, 300, .inl (zF gb))), (qm, .inr (13, [f0, f1, f2, f3, f4, f5, f6, f7, f8, f9, f10, f11, f12, f13, f14, f15, f16, f17, f18, f19, f20, f21, f22, f23, f24, f25, f26, f27, f28, f29, f30, f31, f32, f33, f34, f35, f36, f37, f38, f39, f40, f41, f42, f43, f44, f45, f46, f47, f48, f49, f50, f51, f52, f53, f54, f55, f56, f57, .ref q_gateIn, f59, .ref q_gateOrder, .int (nI od), .ref q_gateA, .ref q_gateB, .ref q_bitValue, f65, f66, f67, f68, f69, f70])), (q_bitValue, .inl (cI, 8000, .inl (nF bv)))] H := hP
      have hD : va_D A [(q_gateOrder, .inl (cI, 300, .inl (nF go))), (q_gateIn, .inl (cI, 300, .inl (nF gi))), (q_gateA, .inl (cI, 300, .inl (zF ga))), (q_gateB, .inl (cI, 300, .inl (zF gb))), (qm, .inr (13, [f0, f1, f2, f3, f4, f5, f6, f7, f8, f9, f10, f11, f12, f13, f14, f15, f16, f17, f18, f19, f20, f21, f22, f23, f24, f25, f26, f27, f28, f29, f30, f31, f32, f33, f34, f35, f36, f37, f38, f39, f40, f41, f42, f43, f44, f45, f46, f47, f48, f49, f50, f51, f52, f53, f54, f55, f56, f57, .ref q_gateIn, f59, .ref q_gateOrder, .int (nI od), .ref q_gateA, .ref q_gateB, .ref q_bitValue, f65, f66, f67, f68, f69, f70])), (q_bitValue, .inl (cI, 8000, .inl (nF bv)))] := hD
      subst w_4
      refine nv_imul hx hb d_Model_settle_50 ?_
      refine nv_isub hx hb (vo_mul hbv _ _) d_Model_settle_51 ?_
      refine nv_iastN (x := 1 - ((vo bv (ga (go i))) * (vo bv (gb (go i))))) hx hb hK hP hD hS 5 1 rfl rfl (by omega) (by decide) d_Model_settle_52 (fun H locs hP hD hS => ?_)
      have hP : va_P (dC, dI) cl [(q_gateOrder, .inl (cI, 300, .inl (nF go))), (q_gateIn, .inl (cI, 300, .inl (nF gi))), (q_gateA, .inl (cI, 300, .inl (zF ga))), (q_gateB, .inl (cI, 300, .inl (zF gb))), (qm, .inr (13, [f0, f1, f2, f3, f4, f5, f6, f7, f8, f9, f10, f11, f12, f13, f14, f15, f16, f17, f18, f19, f20, f21, f22, f23, f24, f25, f26, f27, f28, f29, f30, f31, f32, f33, f34, f35, f36, f37, f38, f39, f40, f41, f42, f43, f44, f45, f46, f47, f48, f49, f50, f51, f52, f53, f54, f55, f56, f57, .ref q_gateIn, f59, .ref q_gateOrder, .int (nI od), .ref q_gateA, .ref q_gateB, .ref q_bitValue, f65, f66, f67, f68, f69, f70])), (q_bitValue, .inl (cI, 8000, .inl (nF (va_up bv ((gi (go i)) + 2) (1 - ((vo bv (ga (go i))) * (vo bv (gb (go i)))))))))] H := hP
      have hD : va_D A [(q_gateOrder, .inl (cI, 300, .inl (nF go))), (q_gateIn, .inl (cI, 300, .inl (nF gi))), (q_gateA, .inl (cI, 300, .inl (zF ga))), (q_gateB, .inl (cI, 300, .inl (zF gb))), (qm, .inr (13, [f0, f1, f2, f3, f4, f5, f6, f7, f8, f9, f10, f11, f12, f13, f14, f15, f16, f17, f18, f19, f20, f21, f22, f23, f24, f25, f26, f27, f28, f29, f30, f31, f32, f33, f34, f35, f36, f37, f38, f39, f40, f41, f42, f43, f44, f45, f46, f47, f48, f49, f50, f51, f52, f53, f54, f55, f56, f57, .ref q_gateIn, f59, .ref q_gateOrder, .int (nI od), .ref q_gateA, .ref q_gateB, .ref q_bitValue, f65, f66, f67, f68, f69, f70])), (q_bitValue, .inl (cI, 8000, .inl (nF (va_up bv ((gi (go i)) + 2) (1 - ((vo bv (ga (go i))) * (vo bv (gb (go i)))))))))] := hD
      refine lv_iinc (v := nI (i + 1)) (lv' := [(1, .int (nI (i + 1))), (2, .int (nI (go i))), (0, .ref qm)]) hx hb d_Model_settle_53 hl (k := 1) rfl (nI_1 _) (by decide) rfl (fun ls hl => ?_)
      refine lv_goto (tgt := 2) hx hb d_Model_settle_56 (by decide) ?_
      exact ih (i + 1) _ H locs ls (by omega) (by omega) (st1_le hbv) (by rw [← hr, st_set_u _ _ _ _ _ i, if_pos (by omega)]) (hP.sub [4, 0, 5, 1, 2, 3] rfl) (hD.sub [4, 0, 5, 1, 2, 3] (by decide) rfl) hS (lv_sub hl [0, 2] rfl)
set_option maxHeartbeats 4000000 in
set_option maxRecDepth 100000 in
/-- settle() -/
theorem c_Model_settle (l : Launch) (dC : Nat → ClassId) (dI : Nat → Nat → Nat) (cB cI cL cZ cC cO : ClassId) {qm q_gateOrder q_bitValue q_gateIn q_gateA q_gateB : Nat}{f0 f1 f2 f3 f4 f5 f6 f7 f8 f9 f10 f11 f12 f13 f14 f15 f16 f17 f18 f19 f20 f21 f22 f23 f24 f25 f26 f27 f28 f29 f30 f31 f32 f33 f34 f35 f36 f37 f38 f39 f40 f41 f42 f43 f44 f45 f46 f47 f48 f49 f50 f51 f52 f53 f54 f55 f56 f57 f59 f65 f66 f67 f68 f69 f70 : Value} (od : Nat) (go gi ga gb bv : Nat → Nat) (sz : Nat) (hod : od ≤ 300) (hgo : ∀ i, i < od → go i < 300 ∧ gi (go i) + 2 < 8000 ∧ ga (go i) < 8002 ∧ gb (go i) < 8002) (hbv : ∀ j, bv j ≤ 1) : Met l y_Model_settle w_Model_settle ({ frames := 1, cells := 0, slots := 0, locals := 30 }) (va_Pc [.ref qm] (wB (dC, dI) cl [(cB, .byte), (cI, .int), (cL, .long), (cZ, .boolean), (cC, .char), (cO, .object "java/lang/Object")] sz [(qm, .inr (13, [f0, f1, f2, f3, f4, f5, f6, f7, f8, f9, f10, f11, f12, f13, f14, f15, f16, f17, f18, f19, f20, f21, f22, f23, f24, f25, f26, f27, f28, f29, f30, f31, f32, f33, f34, f35, f36, f37, f38, f39, f40, f41, f42, f43, f44, f45, f46, f47, f48, f49, f50, f51, f52, f53, f54, f55, f56, f57, .ref q_gateIn, f59, .ref q_gateOrder, .int (nI od), .ref q_gateA, .ref q_gateB, .ref q_bitValue, f65, f66, f67, f68, f69, f70])), (q_gateOrder, .inl (cI, 300, .inl (nF go))), (q_bitValue, .inl (cI, 8000, .inl (nF bv))), (q_gateIn, .inl (cI, 300, .inl (nF gi))), (q_gateA, .inl (cI, 300, .inl (zF ga))), (q_gateB, .inl (cI, 300, .inl (zF gb)))])) (va_Qv (fun (u : Unit) => True) (fun _ t => wA (dC, dI) cl [(cB, .byte), (cI, .int), (cL, .long), (cZ, .boolean), (cC, .char), (cO, .object "java/lang/Object")] (va_A [(qm, .inr (13, [f0, f1, f2, f3, f4, f5, f6, f7, f8, f9, f10, f11, f12, f13, f14, f15, f16, f17, f18, f19, f20, f21, f22, f23, f24, f25, f26, f27, f28, f29, f30, f31, f32, f33, f34, f35, f36, f37, f38, f39, f40, f41, f42, f43, f44, f45, f46, f47, f48, f49, f50, f51, f52, f53, f54, f55, f56, f57, .ref q_gateIn, f59, .ref q_gateOrder, .int (nI od), .ref q_gateA, .ref q_gateB, .ref q_bitValue, f65, f66, f67, f68, f69, f70])), (q_gateOrder, .inl (cI, 300, .inl (nF go))), (q_bitValue, .inl (cI, 8000, .inl (nF bv))), (q_gateIn, .inl (cI, 300, .inl (nF gi))), (q_gateA, .inl (cI, 300, .inl (zF ga))), (q_gateB, .inl (cI, 300, .inl (zF gb)))] sz) [(qm, .inr (13, [f0, f1, f2, f3, f4, f5, f6, f7, f8, f9, f10, f11, f12, f13, f14, f15, f16, f17, f18, f19, f20, f21, f22, f23, f24, f25, f26, f27, f28, f29, f30, f31, f32, f33, f34, f35, f36, f37, f38, f39, f40, f41, f42, f43, f44, f45, f46, f47, f48, f49, f50, f51, f52, f53, f54, f55, f56, f57, .ref q_gateIn, f59, .ref q_gateOrder, .int (nI od), .ref q_gateA, .ref q_gateB, .ref q_bitValue, f65, f66, f67, f68, f69, f70])), (q_gateOrder, .inl (cI, 300, .inl (nF go))), (q_bitValue, .inl (cI, 8000, .inl (nF (st_set go gi ga gb od 0 bv)))), (q_gateIn, .inl (cI, 300, .inl (nF gi))), (q_gateA, .inl (cI, 300, .inl (zF ga))), (q_gateB, .inl (cI, 300, .inl (zF gb)))] t) (va_A [(qm, .inr (13, [f0, f1, f2, f3, f4, f5, f6, f7, f8, f9, f10, f11, f12, f13, f14, f15, f16, f17, f18, f19, f20, f21, f22, f23, f24, f25, f26, f27, f28, f29, f30, f31, f32, f33, f34, f35, f36, f37, f38, f39, f40, f41, f42, f43, f44, f45, f46, f47, f48, f49, f50, f51, f52, f53, f54, f55, f56, f57, .ref q_gateIn, f59, .ref q_gateOrder, .int (nI od), .ref q_gateA, .ref q_gateB, .ref q_bitValue, f65, f66, f67, f68, f69, f70])), (q_gateOrder, .inl (cI, 300, .inl (nF go))), (q_bitValue, .inl (cI, 8000, .inl (nF bv))), (q_gateIn, .inl (cI, 300, .inl (nF gi))), (q_gateA, .inl (cI, 300, .inl (zF ga))), (q_gateB, .inl (cI, 300, .inl (zF gb)))] sz)) 0 0 (va_A [(qm, .inr (13, [f0, f1, f2, f3, f4, f5, f6, f7, f8, f9, f10, f11, f12, f13, f14, f15, f16, f17, f18, f19, f20, f21, f22, f23, f24, f25, f26, f27, f28, f29, f30, f31, f32, f33, f34, f35, f36, f37, f38, f39, f40, f41, f42, f43, f44, f45, f46, f47, f48, f49, f50, f51, f52, f53, f54, f55, f56, f57, .ref q_gateIn, f59, .ref q_gateOrder, .int (nI od), .ref q_gateA, .ref q_gateB, .ref q_bitValue, f65, f66, f67, f68, f69, f70])), (q_gateOrder, .inl (cI, 300, .inl (nF go))), (q_bitValue, .inl (cI, 8000, .inl (nF bv))), (q_gateIn, .inl (cI, 300, .inl (nF gi))), (q_gateA, .inl (cI, 300, .inl (zF ga))), (q_gateB, .inl (cI, 300, .inl (zF gb)))] sz) := by
  refine Met.ofW (cc := b_Model_settle) (maxL := 3) (ret := none) (by decide) rfl ?_
  intro p e s m args below meth c s₁ B hml hv
  obtain ⟨rfl, hsz, hP, hK, hD0, hF⟩ := hv
  have hx := B.exec
  have hb := B.bytes
  have hr := B.returns
  have hts := atoms_spec (ws := w_Model_settle) B.pre
  have hts : ∀ w ∈ tb, w.before _ s = true := fun w h => hts w (List.mem_cons_of_mem _ h)
  have hown : s.vm.findClass R_Model = some m.cls := findClass_of_methodNamed B.named
  have hlocks := B.notSynchronized
  subst hsz
  have hD := hD0.self (sz := s.heap.size)
  generalize hAe : va_A [(qm, .inr (13, [f0, f1, f2, f3, f4, f5, f6, f7, f8, f9, f10, f11, f12, f13, f14, f15, f16, f17, f18, f19, f20, f21, f22, f23, f24, f25, f26, f27, f28, f29, f30, f31, f32, f33, f34, f35, f36, f37, f38, f39, f40, f41, f42, f43, f44, f45, f46, f47, f48, f49, f50, f51, f52, f53, f54, f55, f56, f57, .ref q_gateIn, f59, .ref q_gateOrder, .int (nI od), .ref q_gateA, .ref q_gateB, .ref q_bitValue, f65, f66, f67, f68, f69, f70])), (q_gateOrder, .inl (cI, 300, .inl (nF go))), (q_bitValue, .inl (cI, 8000, .inl (nF bv))), (q_gateIn, .inl (cI, 300, .inl (nF gi))), (q_gateA, .inl (cI, 300, .inl (zF ga))), (q_gateB, .inl (cI, 300, .inl (zF gb)))] s.heap.size = A at hD hF ⊢
  have hA : ∀ q : Nat, s.heap.size ≤ q → A q := fun q h => by rw [← hAe]; exact Or.inr h
  have hS : va_S A s.heap s.heap [] := va_S.rf
  have hP : va_P (dC, dI) cl [(qm, .inr (13, [f0, f1, f2, f3, f4, f5, f6, f7, f8, f9, f10, f11, f12, f13, f14, f15, f16, f17, f18, f19, f20, f21, f22, f23, f24, f25, f26, f27, f28, f29, f30, f31, f32, f33, f34, f35, f36, f37, f38, f39, f40, f41, f42, f43, f44, f45, f46, f47, f48, f49, f50, f51, f52, f53, f54, f55, f56, f57, .ref q_gateIn, f59, .ref q_gateOrder, .int (nI od), .ref q_gateA, .ref q_gateB, .ref q_bitValue, f65, f66, f67, f68, f69, f70])), (q_gateOrder, .inl (cI, 300, .inl (nF go))), (q_bitValue, .inl (cI, 8000, .inl (nF bv))), (q_gateIn, .inl (cI, 300, .inl (nF gi))), (q_gateA, .inl (cI, 300, .inl (zF ga))), (q_gateB, .inl (cI, 300, .inl (zF gb)))] s.heap := hP
  have hl := lv_entry ([.ref qm]) (n := 3) (Nat.le_of_ble_eq_true rfl)
  rw [lg_entry_eq]
  generalize (lg_sl ([.ref qm]) ++ List.replicate (3 - (lg_sl ([.ref qm])).length) Slot.unset).toArray = ls at hl ⊢
  have hl : lv_has ls 3 [(0, .ref qm)] := hl
  refine lv_iconst (v := nI 0) hx hb d_Model_settle_0 (by decide) ?_
  refine lv_istore_n (lv' := [(1, .int (nI 0)), (0, .ref qm)]) hx hb d_Model_settle_1 rfl hl (by decide) rfl (fun ls hl => ?_)
  refine lp_Model_settle (F := st_set go gi ga gb od 0 bv) hod hgo hx hb hml hown hts hA hF hK (fun H locs ls hP hD hS hl => ?_) 301 0 bv _ _ ls (by omega) (by omega) hbv rfl hP hD hS (lv_sub hl [0, 1] rfl)
  exact wr_v hx hb hr hlocks () trivial hK hP hD hS d_Model_settle_59
theorem d_Model_countPins_0 : decode b_Model_countPins 0 = .ok (.iconst 0, 1) := by decide +kernel
theorem d_Model_countPins_1 : decode b_Model_countPins 1 = .ok (.istore_n 2, 1) := by decide +kernel
theorem d_Model_countPins_2 : decode b_Model_countPins 2 = .ok (.aload_n 0, 1) := by decide +kernel
theorem d_Model_countPins_3 : decode b_Model_countPins 3 = .ok (.getfield 36, 3) := by decide +kernel
theorem d_Model_countPins_6 : decode b_Model_countPins 6 = .ok (.aload_n 0, 1) := by decide +kernel
theorem d_Model_countPins_7 : decode b_Model_countPins 7 = .ok (.getfield 363, 3) := by decide +kernel
theorem d_Model_countPins_10 : decode b_Model_countPins 10 = .ok (.iaload, 1) := by decide +kernel
theorem d_Model_countPins_11 : decode b_Model_countPins 11 = .ok (.istore_n 3, 1) := by decide +kernel
theorem d_Model_countPins_12 : decode b_Model_countPins 12 = .ok (.iload_n 3, 1) := by decide +kernel
theorem d_Model_countPins_13 : decode b_Model_countPins 13 = .ok (.aload_n 0, 1) := by decide +kernel
theorem d_Model_countPins_14 : decode b_Model_countPins 14 = .ok (.getfield 36, 3) := by decide +kernel
theorem d_Model_countPins_17 : decode b_Model_countPins 17 = .ok (.aload_n 0, 1) := by decide +kernel
theorem d_Model_countPins_18 : decode b_Model_countPins 18 = .ok (.getfield 363, 3) := by decide +kernel
theorem d_Model_countPins_21 : decode b_Model_countPins 21 = .ok (.iconst 1, 1) := by decide +kernel
theorem d_Model_countPins_22 : decode b_Model_countPins 22 = .ok (.iadd, 1) := by decide +kernel
theorem d_Model_countPins_23 : decode b_Model_countPins 23 = .ok (.iaload, 1) := by decide +kernel
theorem d_Model_countPins_24 : decode b_Model_countPins 24 = .ok (.if_icmp .ge 27, 3) := by decide +kernel
theorem d_Model_countPins_27 : decode b_Model_countPins 27 = .ok (.aload_n 0, 1) := by decide +kernel
theorem d_Model_countPins_28 : decode b_Model_countPins 28 = .ok (.getfield 39, 3) := by decide +kernel
theorem d_Model_countPins_31 : decode b_Model_countPins 31 = .ok (.iload_n 3, 1) := by decide +kernel
theorem d_Model_countPins_32 : decode b_Model_countPins 32 = .ok (.baload, 1) := by decide +kernel
theorem d_Model_countPins_33 : decode b_Model_countPins 33 = .ok (.iload_n 1, 1) := by decide +kernel
theorem d_Model_countPins_34 : decode b_Model_countPins 34 = .ok (.if_icmp .ne 9, 3) := by decide +kernel
theorem d_Model_countPins_37 : decode b_Model_countPins 37 = .ok (.iload_n 2, 1) := by decide +kernel
theorem d_Model_countPins_38 : decode b_Model_countPins 38 = .ok (.iconst 1, 1) := by decide +kernel
theorem d_Model_countPins_39 : decode b_Model_countPins 39 = .ok (.iadd, 1) := by decide +kernel
theorem d_Model_countPins_40 : decode b_Model_countPins 40 = .ok (.goto 4, 3) := by decide +kernel
theorem d_Model_countPins_43 : decode b_Model_countPins 43 = .ok (.iload_n 2, 1) := by decide +kernel
theorem d_Model_countPins_44 : decode b_Model_countPins 44 = .ok (.istore_n 2, 1) := by decide +kernel
theorem d_Model_countPins_45 : decode b_Model_countPins 45 = .ok (.iinc 3 1, 3) := by decide +kernel
theorem d_Model_countPins_48 : decode b_Model_countPins 48 = .ok (.goto (-36), 3) := by decide +kernel
theorem d_Model_countPins_51 : decode b_Model_countPins 51 = .ok (.iload_n 2, 1) := by decide +kernel
theorem d_Model_countPins_52 : decode b_Model_countPins 52 = .ok (.ireturn, 1) := by decide +kernel
def m_cp (po : Nat → Bool) (ob : Bool) : Nat → Nat → Nat → Nat
  | 0, _, n => n
  | k + 1, i, n => m_cp po ob k (i + 1) (if po i = ob then n + 1 else n)
theorem m_cp_u (po : Nat → Bool) (ob : Bool) (e i n : Nat) : m_cp po ob (e - i) i n = if i < e then m_cp po ob (e - (i + 1)) (i + 1) (if po i = ob then n + 1 else n) else n := by
  by_cases h : i < e
  · rw [if_pos h, show e - i = (e - (i + 1)) + 1 by omega]; rfl
  · rw [if_neg h, show e - i = 0 by omega]; rfl
set_option maxHeartbeats 4000000 in
set_option maxRecDepth 100000 in
theorem lp_Model_countPins {p : Program} {l : Launch} {e : Env} {s : State} {m : MethodId} {args : Array Value} {below : List Frame} {meth : Method} {c : Code} {Q : State → Prop} {A : Nat → Prop} {dC : Nat → ClassId} {dI : Nat → Nat → Nat} {cB cI cL cZ cC cO : ClassId} {qm q_pinFirst q_pinOut : Nat}{f0 f1 f2 f3 f4 f5 f6 f7 f8 f9 f10 f11 f12 f13 f14 f15 f16 f18 f20 f21 f22 f23 f24 f25 f26 f27 f28 f29 f30 f31 f32 f33 f34 f35 f36 f37 f38 f39 f40 f41 f42 f43 f44 f45 f46 f47 f48 f49 f50 f51 f52 f53 f54 f55 f56 f57 f58 f59 f60 f61 f62 f63 f64 f65 f66 f67 f68 f70 : Value} {bch r : Nat} {pf : Nat → Nat} {po : Nat → Bool} {ob : Bool} (hb8 : bch < 8) (hpf : ∀ j, pf j ≤ 200) (hpe : pf (bch + 1) ≤ 200) (hx : p.tables.exec = Jvm.exec) (hb : c.code = b_Model_countPins) (hml : c.maxLocals = 4) (hown : s.vm.findClass R_Model = some m.cls) (hts : ∀ w ∈ tb, w.before args s = true) (hA : ∀ q, s.heap.size ≤ q → A q) (hF : stF A s) (hK : va_K (dC, dI) cl [(cB, .byte), (cI, .int), (cL, .long), (cZ, .boolean), (cC, .char), (cO, .object "java/lang/Object")] s)
    (kx : ∀  (H : Heap) (locs : List Loc) (ls : Array Slot), va_P (dC, dI) cl [(qm, .inr (13, [f0, f1, f2, f3, f4, f5, f6, f7, f8, f9, f10, f11, f12, f13, f14, f15, f16, .ref q_pinFirst, f18, .ref q_pinOut, f20, f21, f22, f23, f24, f25, f26, f27, f28, f29, f30, f31, f32, f33, f34, f35, f36, f37, f38, f39, f40, f41, f42, f43, f44, f45, f46, f47, f48, f49, f50, f51, f52, f53, f54, f55, f56, f57, f58, f59, f60, f61, f62, f63, f64, f65, f66, f67, f68, .int (nI bch), f70])), (q_pinFirst, .inl (cI, 18, .inl (nF pf))), (q_pinOut, .inl (cZ, 200, .inl (bF po)))] H → va_D A [(qm, .inr (13, [f0, f1, f2, f3, f4, f5, f6, f7, f8, f9, f10, f11, f12, f13, f14, f15, f16, .ref q_pinFirst, f18, .ref q_pinOut, f20, f21, f22, f23, f24, f25, f26, f27, f28, f29, f30, f31, f32, f33, f34, f35, f36, f37, f38, f39, f40, f41, f42, f43, f44, f45, f46, f47, f48, f49, f50, f51, f52, f53, f54, f55, f56, f57, f58, f59, f60, f61, f62, f63, f64, f65, f66, f67, f68, .int (nI bch), f70])), (q_pinFirst, .inl (cI, 18, .inl (nF pf))), (q_pinOut, .inl (cZ, 200, .inl (bF po)))] → va_S A s.heap H locs → lv_has ls 4 [(2, .int (nI r)), (0, .ref qm), (1, .int (bI ob))] → W p l e (headSpec w_Model_countPins { frames := 0, cells := 0, slots := 0, locals := 0 }).room s m args below meth c H locs 0 0 Q (F0 m 51 ls [])) :
    ∀ (k : Nat) (i n : Nat) (H : Heap) (locs : List Loc) (ls : Array Slot), 201 < i + k → i ≤ 201 → m_cp po ob (pf (bch + 1) - i) i n = r → va_P (dC, dI) cl [(qm, .inr (13, [f0, f1, f2, f3, f4, f5, f6, f7, f8, f9, f10, f11, f12, f13, f14, f15, f16, .ref q_pinFirst, f18, .ref q_pinOut, f20, f21, f22, f23, f24, f25, f26, f27, f28, f29, f30, f31, f32, f33, f34, f35, f36, f37, f38, f39, f40, f41, f42, f43, f44, f45, f46, f47, f48, f49, f50, f51, f52, f53, f54, f55, f56, f57, f58, f59, f60, f61, f62, f63, f64, f65, f66, f67, f68, .int (nI bch), f70])), (q_pinFirst, .inl (cI, 18, .inl (nF pf))), (q_pinOut, .inl (cZ, 200, .inl (bF po)))] H → va_D A [(qm, .inr (13, [f0, f1, f2, f3, f4, f5, f6, f7, f8, f9, f10, f11, f12, f13, f14, f15, f16, .ref q_pinFirst, f18, .ref q_pinOut, f20, f21, f22, f23, f24, f25, f26, f27, f28, f29, f30, f31, f32, f33, f34, f35, f36, f37, f38, f39, f40, f41, f42, f43, f44, f45, f46, f47, f48, f49, f50, f51, f52, f53, f54, f55, f56, f57, f58, f59, f60, f61, f62, f63, f64, f65, f66, f67, f68, .int (nI bch), f70])), (q_pinFirst, .inl (cI, 18, .inl (nF pf))), (q_pinOut, .inl (cZ, 200, .inl (bF po)))] → va_S A s.heap H locs → lv_has ls 4 [(3, .int (nI i)), (2, .int (nI n)), (0, .ref qm), (1, .int (bI ob))] → W p l e (headSpec w_Model_countPins { frames := 0, cells := 0, slots := 0, locals := 0 }).room s m args below meth c H locs 0 0 Q (F0 m 12 ls []) := by
  intro k
  induction k with
  | zero =>
    intro i n H locs ls hk hi hr hP hD hS hl
    exfalso; omega
  | succ k ih =>
    intro i n H locs ls hk hi hr hP hD hS hl
    refine lv_iload_n hx hb d_Model_countPins_12 rfl (lv_at hl 0 rfl) ?_
    refine lv_aload_n hx hb d_Model_countPins_13 rfl (lv_at hl 2 rfl) ?_
    refine va_get (D := (dC, dI)) (ci := 13) (v := .ref q_pinFirst) (C := R_Model) (T := F_Model) (N := 71) hx hb hts i_Model hown hK hP 0 rfl rfl 17 (by decide) (hts _ k_891) (fun _ h9 => h9) rfl d_Model_countPins_14 ?_
    refine lv_aload_n hx hb d_Model_countPins_17 rfl (lv_at hl 2 rfl) ?_
    refine va_get (D := (dC, dI)) (ci := 13) (v := .int (nI bch)) (C := R_Model) (T := F_Model) (N := 71) hx hb hts i_Model hown hK hP 0 rfl rfl 69 (by decide) (hts _ k_943) (fun _ h9 => h9) rfl d_Model_countPins_18 ?_
    refine lv_iconst (v := nI 1) hx hb d_Model_countPins_21 (by decide) ?_
    refine nv_iadd hx hb d_Model_countPins_22 ?_
    refine nv_iald hx hb hK hP 1 1 rfl rfl (by omega) (by decide) d_Model_countPins_23 ?_
    refine nv_icmp_ge (tgt := 51) hx hb (by omega) (by omega) d_Model_countPins_24 (by decide) (fun c_1 => ?_) (fun c_1 => ?_)
    · have hri : n = r := by rw [← hr, m_cp_u, if_neg (by omega)]
      subst hri
      exact kx H locs ls hP hD hS (lv_sub hl [1, 2, 3] rfl)
    · refine lv_aload_n hx hb d_Model_countPins_27 rfl (lv_at hl 2 rfl) ?_
      refine va_get (D := (dC, dI)) (ci := 13) (v := .ref q_pinOut) (C := R_Model) (T := F_Model) (N := 71) hx hb hts i_Model hown hK hP 0 rfl rfl 19 (by decide) (hts _ k_893) (fun _ h9 => h9) rfl d_Model_countPins_28 ?_
      refine lv_iload_n hx hb d_Model_countPins_31 rfl (lv_at hl 0 rfl) ?_
      refine nv_zald hx hb hK hP 2 3 rfl rfl (by omega) (by decide) d_Model_countPins_32 ?_
      refine lv_iload_n hx hb d_Model_countPins_33 rfl (lv_at hl 3 rfl) ?_
      refine nv_bicmp_ne (tgt := 43) hx hb d_Model_countPins_34 (by decide) (fun c_2 => ?_) (fun c_2 => ?_)
      · refine lv_iload_n hx hb d_Model_countPins_43 rfl (lv_at hl 1 rfl) ?_
        refine lv_istore_n (lv' := [(2, .int (nI n)), (3, .int (nI i)), (0, .ref qm), (1, .int (bI ob))]) hx hb d_Model_countPins_44 rfl hl (by decide) rfl (fun ls hl => ?_)
        refine lv_iinc (v := nI (i + 1)) (lv' := [(3, .int (nI (i + 1))), (2, .int (nI n)), (0, .ref qm), (1, .int (bI ob))]) hx hb d_Model_countPins_45 hl (k := 1) rfl (nI_1 _) (by decide) rfl (fun ls hl => ?_)
        refine lv_goto (tgt := 12) hx hb d_Model_countPins_48 (by decide) ?_
        exact ih (i + 1) (n) H locs ls (by omega) (by omega) (by rw [← hr, m_cp_u _ _ _ i, if_pos (by omega), if_neg c_2]) hP hD hS (lv_sub hl [0, 1, 2, 3] rfl)
      · refine lv_iload_n hx hb d_Model_countPins_37 rfl (lv_at hl 1 rfl) ?_
        refine lv_iconst (v := nI 1) hx hb d_Model_countPins_38 (by decide) ?_
        refine nv_iadd hx hb d_Model_countPins_39 ?_
        refine lv_goto (tgt := 44) hx hb d_Model_countPins_40 (by decide) ?_
        refine lv_istore_n (lv' := [(2, .int (nI (n + 1))), (3, .int (nI i)), (0, .ref qm), (1, .int (bI ob))]) hx hb d_Model_countPins_44 rfl hl (by decide) rfl (fun ls hl => ?_)
        refine lv_iinc (v := nI (i + 1)) (lv' := [(3, .int (nI (i + 1))), (2, .int (nI (n + 1))), (0, .ref qm), (1, .int (bI ob))]) hx hb d_Model_countPins_45 hl (k := 1) rfl (nI_1 _) (by decide) rfl (fun ls hl => ?_)
        refine lv_goto (tgt := 12) hx hb d_Model_countPins_48 (by decide) ?_
        exact ih (i + 1) (n + 1) H locs ls (by omega) (by omega) (by rw [← hr, m_cp_u _ _ _ i, if_pos (by omega), if_pos c_2]) hP hD hS (lv_sub hl [0, 1, 2, 3] rfl)
set_option maxHeartbeats 4000000 in
set_option maxRecDepth 100000 in
/-- countPins(ob) -/
theorem c_Model_countPins (l : Launch) (dC : Nat → ClassId) (dI : Nat → Nat → Nat) (cB cI cL cZ cC cO : ClassId) {qm q_pinFirst q_pinOut : Nat}{f0 f1 f2 f3 f4 f5 f6 f7 f8 f9 f10 f11 f12 f13 f14 f15 f16 f18 f20 f21 f22 f23 f24 f25 f26 f27 f28 f29 f30 f31 f32 f33 f34 f35 f36 f37 f38 f39 f40 f41 f42 f43 f44 f45 f46 f47 f48 f49 f50 f51 f52 f53 f54 f55 f56 f57 f58 f59 f60 f61 f62 f63 f64 f65 f66 f67 f68 f70 : Value} (bch : Nat) (pf : Nat → Nat) (po : Nat → Bool) (ob : Bool) (sz : Nat) (hb8 : bch < 8) (hpf : ∀ j, pf j ≤ 200) : Met l y_Model_countPins w_Model_countPins ({ frames := 0, cells := 0, slots := 0, locals := 0 }) (va_Pc [.ref qm, .int (bI ob)] (wB (dC, dI) cl [(cB, .byte), (cI, .int), (cL, .long), (cZ, .boolean), (cC, .char), (cO, .object "java/lang/Object")] sz [(qm, .inr (13, [f0, f1, f2, f3, f4, f5, f6, f7, f8, f9, f10, f11, f12, f13, f14, f15, f16, .ref q_pinFirst, f18, .ref q_pinOut, f20, f21, f22, f23, f24, f25, f26, f27, f28, f29, f30, f31, f32, f33, f34, f35, f36, f37, f38, f39, f40, f41, f42, f43, f44, f45, f46, f47, f48, f49, f50, f51, f52, f53, f54, f55, f56, f57, f58, f59, f60, f61, f62, f63, f64, f65, f66, f67, f68, .int (nI bch), f70])), (q_pinFirst, .inl (cI, 18, .inl (nF pf))), (q_pinOut, .inl (cZ, 200, .inl (bF po)))])) (va_Qi (fun (r : Int32) (u : Unit) => r = nI (m_cp po ob (pf (bch + 1) - pf bch) (pf bch) 0)) (fun _ t => wA (dC, dI) cl [(cB, .byte), (cI, .int), (cL, .long), (cZ, .boolean), (cC, .char), (cO, .object "java/lang/Object")] (va_A [(qm, .inr (13, [f0, f1, f2, f3, f4, f5, f6, f7, f8, f9, f10, f11, f12, f13, f14, f15, f16, .ref q_pinFirst, f18, .ref q_pinOut, f20, f21, f22, f23, f24, f25, f26, f27, f28, f29, f30, f31, f32, f33, f34, f35, f36, f37, f38, f39, f40, f41, f42, f43, f44, f45, f46, f47, f48, f49, f50, f51, f52, f53, f54, f55, f56, f57, f58, f59, f60, f61, f62, f63, f64, f65, f66, f67, f68, .int (nI bch), f70])), (q_pinFirst, .inl (cI, 18, .inl (nF pf))), (q_pinOut, .inl (cZ, 200, .inl (bF po)))] sz) [(qm, .inr (13, [f0, f1, f2, f3, f4, f5, f6, f7, f8, f9, f10, f11, f12, f13, f14, f15, f16, .ref q_pinFirst, f18, .ref q_pinOut, f20, f21, f22, f23, f24, f25, f26, f27, f28, f29, f30, f31, f32, f33, f34, f35, f36, f37, f38, f39, f40, f41, f42, f43, f44, f45, f46, f47, f48, f49, f50, f51, f52, f53, f54, f55, f56, f57, f58, f59, f60, f61, f62, f63, f64, f65, f66, f67, f68, .int (nI bch), f70])), (q_pinFirst, .inl (cI, 18, .inl (nF pf))), (q_pinOut, .inl (cZ, 200, .inl (bF po)))] t) (va_A [(qm, .inr (13, [f0, f1, f2, f3, f4, f5, f6, f7, f8, f9, f10, f11, f12, f13, f14, f15, f16, .ref q_pinFirst, f18, .ref q_pinOut, f20, f21, f22, f23, f24, f25, f26, f27, f28, f29, f30, f31, f32, f33, f34, f35, f36, f37, f38, f39, f40, f41, f42, f43, f44, f45, f46, f47, f48, f49, f50, f51, f52, f53, f54, f55, f56, f57, f58, f59, f60, f61, f62, f63, f64, f65, f66, f67, f68, .int (nI bch), f70])), (q_pinFirst, .inl (cI, 18, .inl (nF pf))), (q_pinOut, .inl (cZ, 200, .inl (bF po)))] sz)) 0 0 (va_A [(qm, .inr (13, [f0, f1, f2, f3, f4, f5, f6, f7, f8, f9, f10, f11, f12, f13, f14, f15, f16, .ref q_pinFirst, f18, .ref q_pinOut, f20, f21, f22, f23, f24, f25, f26, f27, f28, f29, f30, f31, f32, f33, f34, f35, f36, f37, f38, f39, f40, f41, f42, f43, f44, f45, f46, f47, f48, f49, f50, f51, f52, f53, f54, f55, f56, f57, f58, f59, f60, f61, f62, f63, f64, f65, f66, f67, f68, .int (nI bch), f70])), (q_pinFirst, .inl (cI, 18, .inl (nF pf))), (q_pinOut, .inl (cZ, 200, .inl (bF po)))] sz) := by
  refine Met.ofW (cc := b_Model_countPins) (maxL := 4) (ret := (some ClassFile.FieldType.int)) (by decide) rfl ?_
  intro p e s m args below meth c s₁ B hml hv
  obtain ⟨rfl, hsz, hP, hK, hD0, hF⟩ := hv
  have hx := B.exec
  have hb := B.bytes
  have hr := B.returns
  have hts := atoms_spec (ws := w_Model_countPins) B.pre
  have hts : ∀ w ∈ tb, w.before _ s = true := fun w h => hts w (List.mem_cons_of_mem _ h)
  have hown : s.vm.findClass R_Model = some m.cls := findClass_of_methodNamed B.named
  have hlocks := B.notSynchronized
  subst hsz
  have hD := hD0.self (sz := s.heap.size)
  generalize hAe : va_A [(qm, .inr (13, [f0, f1, f2, f3, f4, f5, f6, f7, f8, f9, f10, f11, f12, f13, f14, f15, f16, .ref q_pinFirst, f18, .ref q_pinOut, f20, f21, f22, f23, f24, f25, f26, f27, f28, f29, f30, f31, f32, f33, f34, f35, f36, f37, f38, f39, f40, f41, f42, f43, f44, f45, f46, f47, f48, f49, f50, f51, f52, f53, f54, f55, f56, f57, f58, f59, f60, f61, f62, f63, f64, f65, f66, f67, f68, .int (nI bch), f70])), (q_pinFirst, .inl (cI, 18, .inl (nF pf))), (q_pinOut, .inl (cZ, 200, .inl (bF po)))] s.heap.size = A at hD hF ⊢
  have hA : ∀ q : Nat, s.heap.size ≤ q → A q := fun q h => by rw [← hAe]; exact Or.inr h
  have hS : va_S A s.heap s.heap [] := va_S.rf
  have hP : va_P (dC, dI) cl [(qm, .inr (13, [f0, f1, f2, f3, f4, f5, f6, f7, f8, f9, f10, f11, f12, f13, f14, f15, f16, .ref q_pinFirst, f18, .ref q_pinOut, f20, f21, f22, f23, f24, f25, f26, f27, f28, f29, f30, f31, f32, f33, f34, f35, f36, f37, f38, f39, f40, f41, f42, f43, f44, f45, f46, f47, f48, f49, f50, f51, f52, f53, f54, f55, f56, f57, f58, f59, f60, f61, f62, f63, f64, f65, f66, f67, f68, .int (nI bch), f70])), (q_pinFirst, .inl (cI, 18, .inl (nF pf))), (q_pinOut, .inl (cZ, 200, .inl (bF po)))] s.heap := hP
  have hl := lv_entry ([.ref qm, .int (bI ob)]) (n := 4) (Nat.le_of_ble_eq_true rfl)
  rw [lg_entry_eq]
  generalize (lg_sl ([.ref qm, .int (bI ob)]) ++ List.replicate (4 - (lg_sl ([.ref qm, .int (bI ob)])).length) Slot.unset).toArray = ls at hl ⊢
  have hl : lv_has ls 4 [(0, .ref qm), (1, .int (bI ob))] := hl
  have hp0 := hpf bch
  refine lv_iconst (v := nI 0) hx hb d_Model_countPins_0 (by decide) ?_
  refine lv_istore_n (lv' := [(2, .int (nI 0)), (0, .ref qm), (1, .int (bI ob))]) hx hb d_Model_countPins_1 rfl hl (by decide) rfl (fun ls hl => ?_)
  refine lv_aload_n hx hb d_Model_countPins_2 rfl (lv_at hl 1 rfl) ?_
  refine va_get (D := (dC, dI)) (ci := 13) (v := .ref q_pinFirst) (C := R_Model) (T := F_Model) (N := 71) hx hb hts i_Model hown hK hP 0 rfl rfl 17 (by decide) (hts _ k_891) (fun _ h9 => h9) rfl d_Model_countPins_3 ?_
  refine lv_aload_n hx hb d_Model_countPins_6 rfl (lv_at hl 1 rfl) ?_
  refine va_get (D := (dC, dI)) (ci := 13) (v := .int (nI bch)) (C := R_Model) (T := F_Model) (N := 71) hx hb hts i_Model hown hK hP 0 rfl rfl 69 (by decide) (hts _ k_943) (fun _ h9 => h9) rfl d_Model_countPins_7 ?_
  refine nv_iald hx hb hK hP 1 1 rfl rfl (by omega) (by decide) d_Model_countPins_10 ?_
  refine lv_istore_n (lv' := [(3, .int (nI (pf bch))), (2, .int (nI 0)), (0, .ref qm), (1, .int (bI ob))]) hx hb d_Model_countPins_11 rfl hl (by decide) rfl (fun ls hl => ?_)
  refine lp_Model_countPins (r := m_cp po ob (pf (bch + 1) - pf bch) (pf bch) 0) hb8 hpf (hpf _) hx hb hml hown hts hA hF hK (fun H locs ls hP hD hS hl => ?_) 202 (pf bch) 0 _ _ ls (by omega) (by omega) rfl hP hD hS (lv_sub hl [0, 1, 2, 3] rfl)
  refine lv_iload_n hx hb d_Model_countPins_51 rfl (lv_at hl 0 rfl) ?_
  exact wr_i hx hb hr hlocks () rfl hK hP hD hS d_Model_countPins_52
theorem d_Model_boardPin_0 : decode b_Model_boardPin 0 = .ok (.iload_n 1, 1) := by decide +kernel
theorem d_Model_boardPin_1 : decode b_Model_boardPin 1 = .ok (.istore_n 3, 1) := by decide +kernel
theorem d_Model_boardPin_2 : decode b_Model_boardPin 2 = .ok (.aload_n 0, 1) := by decide +kernel
theorem d_Model_boardPin_3 : decode b_Model_boardPin 3 = .ok (.getfield 36, 3) := by decide +kernel
theorem d_Model_boardPin_6 : decode b_Model_boardPin 6 = .ok (.aload_n 0, 1) := by decide +kernel
theorem d_Model_boardPin_7 : decode b_Model_boardPin 7 = .ok (.getfield 363, 3) := by decide +kernel
theorem d_Model_boardPin_10 : decode b_Model_boardPin 10 = .ok (.iaload, 1) := by decide +kernel
theorem d_Model_boardPin_11 : decode b_Model_boardPin 11 = .ok (.istore 4, 2) := by decide +kernel
theorem d_Model_boardPin_13 : decode b_Model_boardPin 13 = .ok (.aload_n 0, 1) := by decide +kernel
theorem d_Model_boardPin_14 : decode b_Model_boardPin 14 = .ok (.getfield 385, 3) := by decide +kernel
theorem d_Model_boardPin_17 : decode b_Model_boardPin 17 = .ok (.ifCond .eq 54, 3) := by decide +kernel
theorem d_Model_boardPin_20 : decode b_Model_boardPin 20 = .ok (.iload_n 1, 1) := by decide +kernel
theorem d_Model_boardPin_21 : decode b_Model_boardPin 21 = .ok (.ifCond .lt 50, 3) := by decide +kernel
theorem d_Model_boardPin_24 : decode b_Model_boardPin 24 = .ok (.iload 4, 2) := by decide +kernel
theorem d_Model_boardPin_26 : decode b_Model_boardPin 26 = .ok (.aload_n 0, 1) := by decide +kernel
theorem d_Model_boardPin_27 : decode b_Model_boardPin 27 = .ok (.getfield 36, 3) := by decide +kernel
theorem d_Model_boardPin_30 : decode b_Model_boardPin 30 = .ok (.aload_n 0, 1) := by decide +kernel
theorem d_Model_boardPin_31 : decode b_Model_boardPin 31 = .ok (.getfield 363, 3) := by decide +kernel
theorem d_Model_boardPin_34 : decode b_Model_boardPin 34 = .ok (.iconst 1, 1) := by decide +kernel
theorem d_Model_boardPin_35 : decode b_Model_boardPin 35 = .ok (.iadd, 1) := by decide +kernel
theorem d_Model_boardPin_36 : decode b_Model_boardPin 36 = .ok (.iaload, 1) := by decide +kernel
theorem d_Model_boardPin_37 : decode b_Model_boardPin 37 = .ok (.if_icmp .ge 34, 3) := by decide +kernel
theorem d_Model_boardPin_40 : decode b_Model_boardPin 40 = .ok (.aload_n 0, 1) := by decide +kernel
theorem d_Model_boardPin_41 : decode b_Model_boardPin 41 = .ok (.getfield 39, 3) := by decide +kernel
theorem d_Model_boardPin_44 : decode b_Model_boardPin 44 = .ok (.iload 4, 2) := by decide +kernel
theorem d_Model_boardPin_46 : decode b_Model_boardPin 46 = .ok (.baload, 1) := by decide +kernel
theorem d_Model_boardPin_47 : decode b_Model_boardPin 47 = .ok (.iload_n 2, 1) := by decide +kernel
theorem d_Model_boardPin_48 : decode b_Model_boardPin 48 = .ok (.if_icmp .eq 6, 3) := by decide +kernel
theorem d_Model_boardPin_51 : decode b_Model_boardPin 51 = .ok (.goto 14, 3) := by decide +kernel
theorem d_Model_boardPin_54 : decode b_Model_boardPin 54 = .ok (.iload_n 3, 1) := by decide +kernel
theorem d_Model_boardPin_55 : decode b_Model_boardPin 55 = .ok (.ifCond .ne 6, 3) := by decide +kernel
theorem d_Model_boardPin_58 : decode b_Model_boardPin 58 = .ok (.iload 4, 2) := by decide +kernel
theorem d_Model_boardPin_60 : decode b_Model_boardPin 60 = .ok (.ireturn, 1) := by decide +kernel
theorem d_Model_boardPin_61 : decode b_Model_boardPin 61 = .ok (.iload_n 3, 1) := by decide +kernel
theorem d_Model_boardPin_62 : decode b_Model_boardPin 62 = .ok (.iconst 1, 1) := by decide +kernel
theorem d_Model_boardPin_63 : decode b_Model_boardPin 63 = .ok (.isub, 1) := by decide +kernel
theorem d_Model_boardPin_64 : decode b_Model_boardPin 64 = .ok (.istore_n 3, 1) := by decide +kernel
theorem d_Model_boardPin_65 : decode b_Model_boardPin 65 = .ok (.iinc 4 1, 3) := by decide +kernel
theorem d_Model_boardPin_68 : decode b_Model_boardPin 68 = .ok (.goto (-55), 3) := by decide +kernel
theorem d_Model_boardPin_71 : decode b_Model_boardPin 71 = .ok (.iconst (-1), 1) := by decide +kernel
theorem d_Model_boardPin_72 : decode b_Model_boardPin 72 = .ok (.ireturn, 1) := by decide +kernel
def m_bp (po : Nat → Bool) (ob : Bool) : Nat → Nat → Nat → Option Nat
  | 0, _, _ => none
  | k + 1, i, n => if po i = ob then (if n = 0 then some i else m_bp po ob k (i + 1) (n - 1)) else m_bp po ob k (i + 1) n
theorem m_bp_u (po : Nat → Bool) (ob : Bool) (e i n : Nat) : m_bp po ob (e - i) i n = if i < e then (if po i = ob then (if n = 0 then some i else m_bp po ob (e - (i + 1)) (i + 1) (n - 1)) else m_bp po ob (e - (i + 1)) (i + 1) n) else none := by
  by_cases h : i < e
  · rw [if_pos h, show e - i = (e - (i + 1)) + 1 by omega]; rfl
  · rw [if_neg h, show e - i = 0 by omega]; rfl
theorem m_bp_in {po : Nat → Bool} {ob : Bool} : ∀ k i n z, m_bp po ob k i n = some z → i ≤ z ∧ z < i + k
  | 0, _, _, _, h => by cases h
  | k + 1, i, n, z, h => by
    have h : (if po i = ob then (if n = 0 then some i else m_bp po ob k (i + 1) (n - 1)) else m_bp po ob k (i + 1) n) = some z := h
    split at h
    · split at h
      · cases h; omega
      · have := m_bp_in k (i + 1) _ z h; omega
    · have := m_bp_in k (i + 1) _ z h; omega
noncomputable def bpin (bd : Bool) (pf : Nat → Nat) (po : Nat → Bool) (bch : Nat) (ob : Bool) (x : Int32) : Option Nat := if bd = true ∧ ¬ x < 0 then m_bp po ob (pf (bch + 1) - pf bch) (pf bch) x.toNatClampNeg else none
theorem bpin_lt {bd : Bool} {pf : Nat → Nat} {po : Nat → Bool} {bch : Nat} {ob : Bool} {x : Int32} (hpf : ∀ j, pf j ≤ 200) : ∀ z, bpin bd pf po bch ob x = some z → z < 200 := by
  intro z hz
  unfold bpin at hz
  split at hz
  · have := m_bp_in _ _ _ _ hz
    have := hpf bch
    have := hpf (bch + 1)
    omega
  · cases hz
set_option maxHeartbeats 4000000 in
set_option maxRecDepth 100000 in
theorem lp_Model_boardPin {p : Program} {l : Launch} {e : Env} {s : State} {m : MethodId} {args : Array Value} {below : List Frame} {meth : Method} {c : Code} {Q : State → Prop} {A : Nat → Prop} {dC : Nat → ClassId} {dI : Nat → Nat → Nat} {cB cI cL cZ cC cO : ClassId} {qm q_pinFirst q_pinOut : Nat}{f0 f1 f2 f3 f4 f5 f6 f7 f8 f9 f10 f11 f12 f13 f14 f15 f16 f18 f20 f21 f22 f23 f24 f25 f26 f27 f28 f29 f30 f31 f32 f33 f34 f35 f36 f37 f38 f39 f40 f41 f42 f43 f44 f46 f47 f48 f49 f50 f51 f52 f53 f54 f55 f56 f57 f58 f59 f60 f61 f62 f63 f64 f65 f66 f67 f68 f70 : Value} {bch kk : Nat} {bd : Bool} {pf : Nat → Nat} {po : Nat → Bool} {ob : Bool} {r : Option Nat} (hb8 : bch < 8) (hpf : ∀ j, pf j ≤ 200) (hpe : pf (bch + 1) ≤ 200) (hbd : bd = true) (hkk : kk < 2 ^ 31) (hx : p.tables.exec = Jvm.exec) (hb : c.code = b_Model_boardPin) (hml : c.maxLocals = 5) (hown : s.vm.findClass R_Model = some m.cls) (hts : ∀ w ∈ tb, w.before args s = true) (hA : ∀ q, s.heap.size ≤ q → A q) (hF : stF A s) (hK : va_K (dC, dI) cl [(cB, .byte), (cI, .int), (cL, .long), (cZ, .boolean), (cC, .char), (cO, .object "java/lang/Object")] s)
    (kx : ∀  (H : Heap) (locs : List Loc) (ls : Array Slot), va_P (dC, dI) cl [(qm, .inr (13, [f0, f1, f2, f3, f4, f5, f6, f7, f8, f9, f10, f11, f12, f13, f14, f15, f16, .ref q_pinFirst, f18, .ref q_pinOut, f20, f21, f22, f23, f24, f25, f26, f27, f28, f29, f30, f31, f32, f33, f34, f35, f36, f37, f38, f39, f40, f41, f42, f43, f44, .int (bI bd), f46, f47, f48, f49, f50, f51, f52, f53, f54, f55, f56, f57, f58, f59, f60, f61, f62, f63, f64, f65, f66, f67, f68, .int (nI bch), f70])), (q_pinFirst, .inl (cI, 18, .inl (nF pf))), (q_pinOut, .inl (cZ, 200, .inl (bF po)))] H → va_D A [(qm, .inr (13, [f0, f1, f2, f3, f4, f5, f6, f7, f8, f9, f10, f11, f12, f13, f14, f15, f16, .ref q_pinFirst, f18, .ref q_pinOut, f20, f21, f22, f23, f24, f25, f26, f27, f28, f29, f30, f31, f32, f33, f34, f35, f36, f37, f38, f39, f40, f41, f42, f43, f44, .int (bI bd), f46, f47, f48, f49, f50, f51, f52, f53, f54, f55, f56, f57, f58, f59, f60, f61, f62, f63, f64, f65, f66, f67, f68, .int (nI bch), f70])), (q_pinFirst, .inl (cI, 18, .inl (nF pf))), (q_pinOut, .inl (cZ, 200, .inl (bF po)))] → va_S A s.heap H locs → lv_has ls 5 [(0, .ref qm), (1, .int (nI kk)), (2, .int (bI ob))] → W p l e (headSpec w_Model_boardPin { frames := 0, cells := 0, slots := 0, locals := 0 }).room s m args below meth c H locs 0 0 Q (F0 m 60 ls [.int (oI r)])) (ky : ∀  (H : Heap) (locs : List Loc) (ls : Array Slot), r = none → va_P (dC, dI) cl [(qm, .inr (13, [f0, f1, f2, f3, f4, f5, f6, f7, f8, f9, f10, f11, f12, f13, f14, f15, f16, .ref q_pinFirst, f18, .ref q_pinOut, f20, f21, f22, f23, f24, f25, f26, f27, f28, f29, f30, f31, f32, f33, f34, f35, f36, f37, f38, f39, f40, f41, f42, f43, f44, .int (bI bd), f46, f47, f48, f49, f50, f51, f52, f53, f54, f55, f56, f57, f58, f59, f60, f61, f62, f63, f64, f65, f66, f67, f68, .int (nI bch), f70])), (q_pinFirst, .inl (cI, 18, .inl (nF pf))), (q_pinOut, .inl (cZ, 200, .inl (bF po)))] H → va_D A [(qm, .inr (13, [f0, f1, f2, f3, f4, f5, f6, f7, f8, f9, f10, f11, f12, f13, f14, f15, f16, .ref q_pinFirst, f18, .ref q_pinOut, f20, f21, f22, f23, f24, f25, f26, f27, f28, f29, f30, f31, f32, f33, f34, f35, f36, f37, f38, f39, f40, f41, f42, f43, f44, .int (bI bd), f46, f47, f48, f49, f50, f51, f52, f53, f54, f55, f56, f57, f58, f59, f60, f61, f62, f63, f64, f65, f66, f67, f68, .int (nI bch), f70])), (q_pinFirst, .inl (cI, 18, .inl (nF pf))), (q_pinOut, .inl (cZ, 200, .inl (bF po)))] → va_S A s.heap H locs → lv_has ls 5 [(0, .ref qm), (1, .int (nI kk)), (2, .int (bI ob))] → W p l e (headSpec w_Model_boardPin { frames := 0, cells := 0, slots := 0, locals := 0 }).room s m args below meth c H locs 0 0 Q (F0 m 71 ls [])) :
    ∀ (k : Nat) (i n : Nat) (H : Heap) (locs : List Loc) (ls : Array Slot), 201 < i + k → i ≤ 201 → n < 2 ^ 31 → m_bp po ob (pf (bch + 1) - i) i n = r → va_P (dC, dI) cl [(qm, .inr (13, [f0, f1, f2, f3, f4, f5, f6, f7, f8, f9, f10, f11, f12, f13, f14, f15, f16, .ref q_pinFirst, f18, .ref q_pinOut, f20, f21, f22, f23, f24, f25, f26, f27, f28, f29, f30, f31, f32, f33, f34, f35, f36, f37, f38, f39, f40, f41, f42, f43, f44, .int (bI bd), f46, f47, f48, f49, f50, f51, f52, f53, f54, f55, f56, f57, f58, f59, f60, f61, f62, f63, f64, f65, f66, f67, f68, .int (nI bch), f70])), (q_pinFirst, .inl (cI, 18, .inl (nF pf))), (q_pinOut, .inl (cZ, 200, .inl (bF po)))] H → va_D A [(qm, .inr (13, [f0, f1, f2, f3, f4, f5, f6, f7, f8, f9, f10, f11, f12, f13, f14, f15, f16, .ref q_pinFirst, f18, .ref q_pinOut, f20, f21, f22, f23, f24, f25, f26, f27, f28, f29, f30, f31, f32, f33, f34, f35, f36, f37, f38, f39, f40, f41, f42, f43, f44, .int (bI bd), f46, f47, f48, f49, f50, f51, f52, f53, f54, f55, f56, f57, f58, f59, f60, f61, f62, f63, f64, f65, f66, f67, f68, .int (nI bch), f70])), (q_pinFirst, .inl (cI, 18, .inl (nF pf))), (q_pinOut, .inl (cZ, 200, .inl (bF po)))] → va_S A s.heap H locs → lv_has ls 5 [(4, .int (nI i)), (3, .int (nI n)), (0, .ref qm), (1, .int (nI kk)), (2, .int (bI ob))] → W p l e (headSpec w_Model_boardPin { frames := 0, cells := 0, slots := 0, locals := 0 }).room s m args below meth c H locs 0 0 Q (F0 m 13 ls []) := by
  intro k
  induction k with
  | zero =>
    intro i n H locs ls hk hi hn hr hP hD hS hl
    exfalso; omega
  | succ k ih =>
    intro i n H locs ls hk hi hn hr hP hD hS hl
    refine lv_aload_n hx hb d_Model_boardPin_13 rfl (lv_at hl 2 rfl) ?_
    refine va_get (D := (dC, dI)) (ci := 13) (v := .int (bI bd)) (C := R_Model) (T := F_Model) (N := 71) hx hb hts i_Model hown hK hP 0 rfl rfl 45 (by decide) (hts _ k_919) (fun _ h9 => h9) rfl d_Model_boardPin_14 ?_
    refine nv_bif_eq (tgt := 71) hx hb d_Model_boardPin_17 (by decide) (fun c_1 => ?_) (fun c_1 => ?_)
    · exact absurd hbd (by rw [c_1]; decide)
    · refine lv_iload_n hx hb d_Model_boardPin_20 rfl (lv_at hl 3 rfl) ?_
      refine nv_if_lt (tgt := 71) hx hb (by omega) d_Model_boardPin_21 (by decide) ?_
      refine lv_iload hx hb d_Model_boardPin_24 (lv_at hl 0 rfl) ?_
      refine lv_aload_n hx hb d_Model_boardPin_26 rfl (lv_at hl 2 rfl) ?_
      refine va_get (D := (dC, dI)) (ci := 13) (v := .ref q_pinFirst) (C := R_Model) (T := F_Model) (N := 71) hx hb hts i_Model hown hK hP 0 rfl rfl 17 (by decide) (hts _ k_891) (fun _ h9 => h9) rfl d_Model_boardPin_27 ?_
      refine lv_aload_n hx hb d_Model_boardPin_30 rfl (lv_at hl 2 rfl) ?_
      refine va_get (D := (dC, dI)) (ci := 13) (v := .int (nI bch)) (C := R_Model) (T := F_Model) (N := 71) hx hb hts i_Model hown hK hP 0 rfl rfl 69 (by decide) (hts _ k_943) (fun _ h9 => h9) rfl d_Model_boardPin_31 ?_
      refine lv_iconst (v := nI 1) hx hb d_Model_boardPin_34 (by decide) ?_
      refine nv_iadd hx hb d_Model_boardPin_35 ?_
      refine nv_iald hx hb hK hP 1 1 rfl rfl (by omega) (by decide) d_Model_boardPin_36 ?_
      refine nv_icmp_ge (tgt := 71) hx hb (by omega) (by omega) d_Model_boardPin_37 (by decide) (fun c_3 => ?_) (fun c_3 => ?_)
      · exact ky H locs ls (by rw [← hr, m_bp_u, if_neg (by omega)]) hP hD hS (lv_sub hl [2, 3, 4] rfl)
      · refine lv_aload_n hx hb d_Model_boardPin_40 rfl (lv_at hl 2 rfl) ?_
        refine va_get (D := (dC, dI)) (ci := 13) (v := .ref q_pinOut) (C := R_Model) (T := F_Model) (N := 71) hx hb hts i_Model hown hK hP 0 rfl rfl 19 (by decide) (hts _ k_893) (fun _ h9 => h9) rfl d_Model_boardPin_41 ?_
        refine lv_iload hx hb d_Model_boardPin_44 (lv_at hl 0 rfl) ?_
        refine nv_zald hx hb hK hP 2 3 rfl rfl (by omega) (by decide) d_Model_boardPin_46 ?_
        refine lv_iload_n hx hb d_Model_boardPin_47 rfl (lv_at hl 4 rfl) ?_
        refine nv_bicmp_eq (tgt := 54) hx hb d_Model_boardPin_48 (by decide) (fun c_4 => ?_) (fun c_4 => ?_)
        · refine lv_iload_n hx hb d_Model_boardPin_54 rfl (lv_at hl 1 rfl) ?_
          refine nv_if_ne (tgt := 61) hx hb (by omega) d_Model_boardPin_55 (by decide) (fun c_5 => ?_) (fun c_5 => ?_)
          · refine lv_iload_n hx hb d_Model_boardPin_61 rfl (lv_at hl 1 rfl) ?_
            refine lv_iconst (v := nI 1) hx hb d_Model_boardPin_62 (by decide) ?_
            refine nv_isub hx hb (by omega) d_Model_boardPin_63 ?_
            refine lv_istore_n (lv' := [(3, .int (nI (n - 1))), (4, .int (nI i)), (0, .ref qm), (1, .int (nI kk)), (2, .int (bI ob))]) hx hb d_Model_boardPin_64 rfl hl (by decide) rfl (fun ls hl => ?_)
            refine lv_iinc (v := nI (i + 1)) (lv' := [(4, .int (nI (i + 1))), (3, .int (nI (n - 1))), (0, .ref qm), (1, .int (nI kk)), (2, .int (bI ob))]) hx hb d_Model_boardPin_65 hl (k := 1) rfl (nI_1 _) (by decide) rfl (fun ls hl => ?_)
            refine lv_goto (tgt := 13) hx hb d_Model_boardPin_68 (by decide) ?_
            exact ih (i + 1) (n - 1) H locs ls (by omega) (by omega) (by omega) (by rw [← hr, m_bp_u _ _ _ i, if_pos (by omega), if_pos c_4, if_neg c_5]) hP hD hS (lv_sub hl [0, 1, 2, 3, 4] rfl)
          · refine lv_iload hx hb d_Model_boardPin_58 (lv_at hl 0 rfl) ?_
            have hri : some i = r := by rw [← hr, m_bp_u, if_pos (by omega), if_pos c_4, if_pos c_5]
            subst hri
            exact kx H locs ls hP hD hS (lv_sub hl [2, 3, 4] rfl)
        · refine lv_goto (tgt := 65) hx hb d_Model_boardPin_51 (by decide) ?_
          refine lv_iinc (v := nI (i + 1)) (lv' := [(4, .int (nI (i + 1))), (3, .int (nI n)), (0, .ref qm), (1, .int (nI kk)), (2, .int (bI ob))]) hx hb d_Model_boardPin_65 hl (k := 0) rfl (nI_1 _) (by decide) rfl (fun ls hl => ?_)
          refine lv_goto (tgt := 13) hx hb d_Model_boardPin_68 (by decide) ?_
          exact ih (i + 1) (n) H locs ls (by omega) (by omega) (by omega) (by rw [← hr, m_bp_u _ _ _ i, if_pos (by omega), if_neg c_4]) hP hD hS (lv_sub hl [0, 1, 2, 3, 4] rfl)
set_option maxHeartbeats 4000000 in
set_option maxRecDepth 100000 in
/-- boardPin(x, ob) -/
theorem c_Model_boardPin (l : Launch) (dC : Nat → ClassId) (dI : Nat → Nat → Nat) (cB cI cL cZ cC cO : ClassId) {qm q_pinFirst q_pinOut : Nat}{f0 f1 f2 f3 f4 f5 f6 f7 f8 f9 f10 f11 f12 f13 f14 f15 f16 f18 f20 f21 f22 f23 f24 f25 f26 f27 f28 f29 f30 f31 f32 f33 f34 f35 f36 f37 f38 f39 f40 f41 f42 f43 f44 f46 f47 f48 f49 f50 f51 f52 f53 f54 f55 f56 f57 f58 f59 f60 f61 f62 f63 f64 f65 f66 f67 f68 f70 : Value} (bch : Nat) (bd : Bool) (pf : Nat → Nat) (po : Nat → Bool) (x : Int32) (ob : Bool) (sz : Nat) (hb8 : bch < 8) (hpf : ∀ j, pf j ≤ 200) : Met l y_Model_boardPin w_Model_boardPin ({ frames := 0, cells := 0, slots := 0, locals := 0 }) (va_Pc [.ref qm, .int x, .int (bI ob)] (wB (dC, dI) cl [(cB, .byte), (cI, .int), (cL, .long), (cZ, .boolean), (cC, .char), (cO, .object "java/lang/Object")] sz [(qm, .inr (13, [f0, f1, f2, f3, f4, f5, f6, f7, f8, f9, f10, f11, f12, f13, f14, f15, f16, .ref q_pinFirst, f18, .ref q_pinOut, f20, f21, f22, f23, f24, f25, f26, f27, f28, f29, f30, f31, f32, f33, f34, f35, f36, f37, f38, f39, f40, f41, f42, f43, f44, .int (bI bd), f46, f47, f48, f49, f50, f51, f52, f53, f54, f55, f56, f57, f58, f59, f60, f61, f62, f63, f64, f65, f66, f67, f68, .int (nI bch), f70])), (q_pinFirst, .inl (cI, 18, .inl (nF pf))), (q_pinOut, .inl (cZ, 200, .inl (bF po)))])) (va_Qi (fun (r : Int32) (u : Unit) => r = oI (bpin bd pf po bch ob x)) (fun _ t => wA (dC, dI) cl [(cB, .byte), (cI, .int), (cL, .long), (cZ, .boolean), (cC, .char), (cO, .object "java/lang/Object")] (va_A [(qm, .inr (13, [f0, f1, f2, f3, f4, f5, f6, f7, f8, f9, f10, f11, f12, f13, f14, f15, f16, .ref q_pinFirst, f18, .ref q_pinOut, f20, f21, f22, f23, f24, f25, f26, f27, f28, f29, f30, f31, f32, f33, f34, f35, f36, f37, f38, f39, f40, f41, f42, f43, f44, .int (bI bd), f46, f47, f48, f49, f50, f51, f52, f53, f54, f55, f56, f57, f58, f59, f60, f61, f62, f63, f64, f65, f66, f67, f68, .int (nI bch), f70])), (q_pinFirst, .inl (cI, 18, .inl (nF pf))), (q_pinOut, .inl (cZ, 200, .inl (bF po)))] sz) [(qm, .inr (13, [f0, f1, f2, f3, f4, f5, f6, f7, f8, f9, f10, f11, f12, f13, f14, f15, f16, .ref q_pinFirst, f18, .ref q_pinOut, f20, f21, f22, f23, f24, f25, f26, f27, f28, f29, f30, f31, f32, f33, f34, f35, f36, f37, f38, f39, f40, f41, f42, f43, f44, .int (bI bd), f46, f47, f48, f49, f50, f51, f52, f53, f54, f55, f56, f57, f58, f59, f60, f61, f62, f63, f64, f65, f66, f67, f68, .int (nI bch), f70])), (q_pinFirst, .inl (cI, 18, .inl (nF pf))), (q_pinOut, .inl (cZ, 200, .inl (bF po)))] t) (va_A [(qm, .inr (13, [f0, f1, f2, f3, f4, f5, f6, f7, f8, f9, f10, f11, f12, f13, f14, f15, f16, .ref q_pinFirst, f18, .ref q_pinOut, f20, f21, f22, f23, f24, f25, f26, f27, f28, f29, f30, f31, f32, f33, f34, f35, f36, f37, f38, f39, f40, f41, f42, f43, f44, .int (bI bd), f46, f47, f48, f49, f50, f51, f52, f53, f54, f55, f56, f57, f58, f59, f60, f61, f62, f63, f64, f65, f66, f67, f68, .int (nI bch), f70])), (q_pinFirst, .inl (cI, 18, .inl (nF pf))), (q_pinOut, .inl (cZ, 200, .inl (bF po)))] sz)) 0 0 (va_A [(qm, .inr (13, [f0, f1, f2, f3, f4, f5, f6, f7, f8, f9, f10, f11, f12, f13, f14, f15, f16, .ref q_pinFirst, f18, .ref q_pinOut, f20, f21, f22, f23, f24, f25, f26, f27, f28, f29, f30, f31, f32, f33, f34, f35, f36, f37, f38, f39, f40, f41, f42, f43, f44, .int (bI bd), f46, f47, f48, f49, f50, f51, f52, f53, f54, f55, f56, f57, f58, f59, f60, f61, f62, f63, f64, f65, f66, f67, f68, .int (nI bch), f70])), (q_pinFirst, .inl (cI, 18, .inl (nF pf))), (q_pinOut, .inl (cZ, 200, .inl (bF po)))] sz) := by
  refine Met.ofW (cc := b_Model_boardPin) (maxL := 5) (ret := (some ClassFile.FieldType.int)) (by decide) rfl ?_
  intro p e s m args below meth c s₁ B hml hv
  obtain ⟨rfl, hsz, hP, hK, hD0, hF⟩ := hv
  have hx := B.exec
  have hb := B.bytes
  have hr := B.returns
  have hts := atoms_spec (ws := w_Model_boardPin) B.pre
  have hts : ∀ w ∈ tb, w.before _ s = true := fun w h => hts w (List.mem_cons_of_mem _ h)
  have hown : s.vm.findClass R_Model = some m.cls := findClass_of_methodNamed B.named
  have hlocks := B.notSynchronized
  subst hsz
  have hD := hD0.self (sz := s.heap.size)
  generalize hAe : va_A [(qm, .inr (13, [f0, f1, f2, f3, f4, f5, f6, f7, f8, f9, f10, f11, f12, f13, f14, f15, f16, .ref q_pinFirst, f18, .ref q_pinOut, f20, f21, f22, f23, f24, f25, f26, f27, f28, f29, f30, f31, f32, f33, f34, f35, f36, f37, f38, f39, f40, f41, f42, f43, f44, .int (bI bd), f46, f47, f48, f49, f50, f51, f52, f53, f54, f55, f56, f57, f58, f59, f60, f61, f62, f63, f64, f65, f66, f67, f68, .int (nI bch), f70])), (q_pinFirst, .inl (cI, 18, .inl (nF pf))), (q_pinOut, .inl (cZ, 200, .inl (bF po)))] s.heap.size = A at hD hF ⊢
  have hA : ∀ q : Nat, s.heap.size ≤ q → A q := fun q h => by rw [← hAe]; exact Or.inr h
  have hS : va_S A s.heap s.heap [] := va_S.rf
  have hP : va_P (dC, dI) cl [(qm, .inr (13, [f0, f1, f2, f3, f4, f5, f6, f7, f8, f9, f10, f11, f12, f13, f14, f15, f16, .ref q_pinFirst, f18, .ref q_pinOut, f20, f21, f22, f23, f24, f25, f26, f27, f28, f29, f30, f31, f32, f33, f34, f35, f36, f37, f38, f39, f40, f41, f42, f43, f44, .int (bI bd), f46, f47, f48, f49, f50, f51, f52, f53, f54, f55, f56, f57, f58, f59, f60, f61, f62, f63, f64, f65, f66, f67, f68, .int (nI bch), f70])), (q_pinFirst, .inl (cI, 18, .inl (nF pf))), (q_pinOut, .inl (cZ, 200, .inl (bF po)))] s.heap := hP
  have hl := lv_entry ([.ref qm, .int x, .int (bI ob)]) (n := 5) (Nat.le_of_ble_eq_true rfl)
  rw [lg_entry_eq]
  generalize (lg_sl ([.ref qm, .int x, .int (bI ob)]) ++ List.replicate (5 - (lg_sl ([.ref qm, .int x, .int (bI ob)])).length) Slot.unset).toArray = ls at hl ⊢
  have hl : lv_has ls 5 [(0, .ref qm), (1, .int x), (2, .int (bI ob))] := hl
  have hp0 := hpf bch
  have hp1 := hpf (bch + 1)
  refine lv_iload_n hx hb d_Model_boardPin_0 rfl (lv_at hl 1 rfl) ?_
  refine lv_istore_n (lv' := [(3, .int x), (0, .ref qm), (1, .int x), (2, .int (bI ob))]) hx hb d_Model_boardPin_1 rfl hl (by decide) rfl (fun ls hl => ?_)
  refine lv_aload_n hx hb d_Model_boardPin_2 rfl (lv_at hl 1 rfl) ?_
  refine va_get (D := (dC, dI)) (ci := 13) (v := .ref q_pinFirst) (C := R_Model) (T := F_Model) (N := 71) hx hb hts i_Model hown hK hP 0 rfl rfl 17 (by decide) (hts _ k_891) (fun _ h9 => h9) rfl d_Model_boardPin_3 ?_
  refine lv_aload_n hx hb d_Model_boardPin_6 rfl (lv_at hl 1 rfl) ?_
  refine va_get (D := (dC, dI)) (ci := 13) (v := .int (nI bch)) (C := R_Model) (T := F_Model) (N := 71) hx hb hts i_Model hown hK hP 0 rfl rfl 69 (by decide) (hts _ k_943) (fun _ h9 => h9) rfl d_Model_boardPin_7 ?_
  refine nv_iald hx hb hK hP 1 1 rfl rfl (by omega) (by decide) d_Model_boardPin_10 ?_
  refine lv_istore (lv' := [(4, .int (nI (pf bch))), (3, .int x), (0, .ref qm), (1, .int x), (2, .int (bI ob))]) hx hb d_Model_boardPin_11 hl (by decide) rfl (fun ls hl => ?_)
  by_cases hgo : bd = true ∧ ¬ x < 0
  · obtain ⟨kk, hkk, hxk⟩ := nI_of hgo.2
    have hbe : bpin bd pf po bch ob x = m_bp po ob (pf (bch + 1) - pf bch) (pf bch) kk := by unfold bpin; rw [if_pos hgo, hxk, nI_clamp hkk]
    rw [hxk] at hl
    refine lp_Model_boardPin (r := bpin bd pf po bch ob x) hb8 hpf hp1 hgo.1 hkk hx hb hml hown hts hA hF hK (fun H locs ls hP hD hS hl => ?_) (fun H locs ls hno hP hD hS hl => ?_) 202 (pf bch) kk _ _ ls (by omega) (by omega) hkk hbe.symm hP hD hS (lv_sub hl [0, 1, 2, 3, 4] rfl)
    · exact wr_i hx hb hr hlocks () rfl hK hP hD hS d_Model_boardPin_60
    · refine lv_iconst (v := (-1)) hx hb d_Model_boardPin_71 (by decide) ?_
      exact wr_i hx hb hr hlocks () (by rw [hno]; rfl) hK hP hD hS d_Model_boardPin_72
  · have hbe : bpin bd pf po bch ob x = none := by unfold bpin; rw [if_neg hgo]
    refine lv_aload_n hx hb d_Model_boardPin_13 rfl (lv_at hl 2 rfl) ?_
    refine va_get (D := (dC, dI)) (ci := 13) (v := .int (bI bd)) (C := R_Model) (T := F_Model) (N := 71) hx hb hts i_Model hown hK hP 0 rfl rfl 45 (by decide) (hts _ k_919) (fun _ h9 => h9) rfl d_Model_boardPin_14 ?_
    refine nv_bif_eq (tgt := 71) hx hb d_Model_boardPin_17 (by decide) (fun c_1 => ?_) (fun c_1 => ?_)
    · refine lv_iconst (v := (-1)) hx hb d_Model_boardPin_71 (by decide) ?_
      exact wr_i hx hb hr hlocks () (by rw [hbe]; rfl) hK hP hD hS d_Model_boardPin_72
    · refine lv_iload_n hx hb d_Model_boardPin_20 rfl (lv_at hl 3 rfl) ?_
      refine lv_if_lt (tgt := 71) hx hb d_Model_boardPin_21 (by decide) (fun c_2 => ?_) (fun c_2 => ?_)
      · refine lv_iconst (v := (-1)) hx hb d_Model_boardPin_71 (by decide) ?_
        exact wr_i hx hb hr hlocks () (by rw [hbe]; rfl) hK hP hD hS d_Model_boardPin_72
      · exact absurd ⟨c_1, c_2⟩ hgo
