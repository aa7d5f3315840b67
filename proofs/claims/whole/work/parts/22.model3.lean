def m_pre (cw ft : Nat → Int32) (a y : Nat) : Nat → Nat → Nat
  | 0, i => i
  | k + 1, i => if cw (y + i) = ft (a + i) then m_pre cw ft a y k (i + 1) else i
theorem m_pre_u (cw ft : Nat → Int32) (a y n i : Nat) : m_pre cw ft a y (n - i) i = if i < n then (if cw (y + i) = ft (a + i) then m_pre cw ft a y (n - (i + 1)) (i + 1) else i) else i := by
  by_cases h : i < n
  · rw [if_pos h, show n - i = (n - (i + 1)) + 1 by omega]; rfl
  · rw [if_neg h, show n - i = 0 by omega]; rfl
def m_sp (cw : Nat → Int32) : Nat → Nat → Nat
  | 0, i => i
  | k + 1, i => if cw i = nI 32 then i else m_sp cw k (i + 1)
theorem m_sp_u (cw : Nat → Int32) (n i : Nat) : m_sp cw (n - i) i = if i < n then (if cw i = nI 32 then i else m_sp cw (n - (i + 1)) (i + 1)) else i := by
  by_cases h : i < n
  · rw [if_pos h, show n - i = (n - (i + 1)) + 1 by omega]; rfl
  · rw [if_neg h, show n - i = 0 by omega]; rfl
theorem m_sp_ge (cw : Nat → Int32) : ∀ k i, i ≤ m_sp cw k i
  | 0, i => Nat.le_refl i
  | k + 1, i => by
    show i ≤ (if cw i = nI 32 then i else m_sp cw k (i + 1))
    split
    · omega
    · have := m_sp_ge cw k (i + 1); omega
def m_word (cw ft : Nat → Int32) (RR a n : Nat) : Nat → Nat → Nat → Option Nat
  | 0, _, _ => none
  | k + 1, v, y => if y < RR then (if m_pre cw ft a y n 0 = n ∧ cw (y + m_pre cw ft a y n 0) = nI 32 then some v else m_word cw ft RR a n k (v + 1) (m_sp cw (RR - y) y + 1)) else none
theorem m_word_s (cw ft : Nat → Int32) (RR a n k v y : Nat) : m_word cw ft RR a n (k + 1) v y = if y < RR then (if m_pre cw ft a y n 0 = n ∧ cw (y + m_pre cw ft a y n 0) = nI 32 then some v else m_word cw ft RR a n k (v + 1) (m_sp cw (RR - y) y + 1)) else none := rfl
theorem m_word_e {cw ft : Nat → Int32} {RR a n k v y : Nat} (h : ¬ y < RR) : m_word cw ft RR a n k v y = none := by
  cases k with
  | zero => rfl
  | succ k => rw [m_word_s, if_neg h]
theorem m_word_le {cw ft : Nat → Int32} {RR a n : Nat} : ∀ k v y r, m_word cw ft RR a n k v y = some r → r ≤ v + k
  | 0, v, y, r, h => by cases h
  | k + 1, v, y, r, h => by
    rw [m_word_s] at h
    split at h
    · split at h
      · cases h; omega
      · have := m_word_le k (v + 1) _ r h; omega
    · cases h
theorem d_Model_wordOf_0 : decode b_Model_wordOf 0 = .ok (.iconst 0, 1) := by decide +kernel
theorem d_Model_wordOf_1 : decode b_Model_wordOf 1 = .ok (.istore 4, 2) := by decide +kernel
theorem d_Model_wordOf_3 : decode b_Model_wordOf 3 = .ok (.iconst 0, 1) := by decide +kernel
theorem d_Model_wordOf_4 : decode b_Model_wordOf 4 = .ok (.istore 5, 2) := by decide +kernel
theorem d_Model_wordOf_6 : decode b_Model_wordOf 6 = .ok (.iload 5, 2) := by decide +kernel
theorem d_Model_wordOf_8 : decode b_Model_wordOf 8 = .ok (.aload_n 1, 1) := by decide +kernel
theorem d_Model_wordOf_9 : decode b_Model_wordOf 9 = .ok (.arraylength, 1) := by decide +kernel
theorem d_Model_wordOf_10 : decode b_Model_wordOf 10 = .ok (.if_icmp .ge 94, 3) := by decide +kernel
theorem d_Model_wordOf_13 : decode b_Model_wordOf 13 = .ok (.iconst 0, 1) := by decide +kernel
theorem d_Model_wordOf_14 : decode b_Model_wordOf 14 = .ok (.istore 6, 2) := by decide +kernel
theorem d_Model_wordOf_16 : decode b_Model_wordOf 16 = .ok (.iload 6, 2) := by decide +kernel
theorem d_Model_wordOf_18 : decode b_Model_wordOf 18 = .ok (.iload_n 3, 1) := by decide +kernel
theorem d_Model_wordOf_19 : decode b_Model_wordOf 19 = .ok (.if_icmp .ge 31, 3) := by decide +kernel
theorem d_Model_wordOf_22 : decode b_Model_wordOf 22 = .ok (.aload_n 1, 1) := by decide +kernel
theorem d_Model_wordOf_23 : decode b_Model_wordOf 23 = .ok (.iload 5, 2) := by decide +kernel
theorem d_Model_wordOf_25 : decode b_Model_wordOf 25 = .ok (.iload 6, 2) := by decide +kernel
theorem d_Model_wordOf_27 : decode b_Model_wordOf 27 = .ok (.iadd, 1) := by decide +kernel
theorem d_Model_wordOf_28 : decode b_Model_wordOf 28 = .ok (.caload, 1) := by decide +kernel
theorem d_Model_wordOf_29 : decode b_Model_wordOf 29 = .ok (.aload_n 0, 1) := by decide +kernel
theorem d_Model_wordOf_30 : decode b_Model_wordOf 30 = .ok (.getfield 13, 3) := by decide +kernel
theorem d_Model_wordOf_33 : decode b_Model_wordOf 33 = .ok (.iload_n 2, 1) := by decide +kernel
theorem d_Model_wordOf_34 : decode b_Model_wordOf 34 = .ok (.iload 6, 2) := by decide +kernel
theorem d_Model_wordOf_36 : decode b_Model_wordOf 36 = .ok (.iadd, 1) := by decide +kernel
theorem d_Model_wordOf_37 : decode b_Model_wordOf 37 = .ok (.iaload, 1) := by decide +kernel
theorem d_Model_wordOf_38 : decode b_Model_wordOf 38 = .ok (.if_icmp .ne 12, 3) := by decide +kernel
theorem d_Model_wordOf_41 : decode b_Model_wordOf 41 = .ok (.iload 6, 2) := by decide +kernel
theorem d_Model_wordOf_43 : decode b_Model_wordOf 43 = .ok (.iconst 1, 1) := by decide +kernel
theorem d_Model_wordOf_44 : decode b_Model_wordOf 44 = .ok (.iadd, 1) := by decide +kernel
theorem d_Model_wordOf_45 : decode b_Model_wordOf 45 = .ok (.istore 6, 2) := by decide +kernel
theorem d_Model_wordOf_47 : decode b_Model_wordOf 47 = .ok (.goto (-31), 3) := by decide +kernel
theorem d_Model_wordOf_50 : decode b_Model_wordOf 50 = .ok (.iload 6, 2) := by decide +kernel
theorem d_Model_wordOf_52 : decode b_Model_wordOf 52 = .ok (.iload_n 3, 1) := by decide +kernel
theorem d_Model_wordOf_53 : decode b_Model_wordOf 53 = .ok (.if_icmp .ne 18, 3) := by decide +kernel
theorem d_Model_wordOf_56 : decode b_Model_wordOf 56 = .ok (.aload_n 1, 1) := by decide +kernel
theorem d_Model_wordOf_57 : decode b_Model_wordOf 57 = .ok (.iload 5, 2) := by decide +kernel
theorem d_Model_wordOf_59 : decode b_Model_wordOf 59 = .ok (.iload 6, 2) := by decide +kernel
theorem d_Model_wordOf_61 : decode b_Model_wordOf 61 = .ok (.iadd, 1) := by decide +kernel
theorem d_Model_wordOf_62 : decode b_Model_wordOf 62 = .ok (.caload, 1) := by decide +kernel
theorem d_Model_wordOf_63 : decode b_Model_wordOf 63 = .ok (.bipush 32, 2) := by decide +kernel
theorem d_Model_wordOf_65 : decode b_Model_wordOf 65 = .ok (.if_icmp .ne 6, 3) := by decide +kernel
theorem d_Model_wordOf_68 : decode b_Model_wordOf 68 = .ok (.iload 4, 2) := by decide +kernel
theorem d_Model_wordOf_70 : decode b_Model_wordOf 70 = .ok (.ireturn, 1) := by decide +kernel
theorem d_Model_wordOf_71 : decode b_Model_wordOf 71 = .ok (.aload_n 1, 1) := by decide +kernel
theorem d_Model_wordOf_72 : decode b_Model_wordOf 72 = .ok (.iload 5, 2) := by decide +kernel
theorem d_Model_wordOf_74 : decode b_Model_wordOf 74 = .ok (.caload, 1) := by decide +kernel
theorem d_Model_wordOf_75 : decode b_Model_wordOf 75 = .ok (.bipush 32, 2) := by decide +kernel
theorem d_Model_wordOf_77 : decode b_Model_wordOf 77 = .ok (.if_icmp .eq 12, 3) := by decide +kernel
theorem d_Model_wordOf_80 : decode b_Model_wordOf 80 = .ok (.iload 5, 2) := by decide +kernel
theorem d_Model_wordOf_82 : decode b_Model_wordOf 82 = .ok (.iconst 1, 1) := by decide +kernel
theorem d_Model_wordOf_83 : decode b_Model_wordOf 83 = .ok (.iadd, 1) := by decide +kernel
theorem d_Model_wordOf_84 : decode b_Model_wordOf 84 = .ok (.istore 5, 2) := by decide +kernel
theorem d_Model_wordOf_86 : decode b_Model_wordOf 86 = .ok (.goto (-15), 3) := by decide +kernel
theorem d_Model_wordOf_89 : decode b_Model_wordOf 89 = .ok (.iload 5, 2) := by decide +kernel
theorem d_Model_wordOf_91 : decode b_Model_wordOf 91 = .ok (.iconst 1, 1) := by decide +kernel
theorem d_Model_wordOf_92 : decode b_Model_wordOf 92 = .ok (.iadd, 1) := by decide +kernel
theorem d_Model_wordOf_93 : decode b_Model_wordOf 93 = .ok (.istore 5, 2) := by decide +kernel
theorem d_Model_wordOf_95 : decode b_Model_wordOf 95 = .ok (.iload 4, 2) := by decide +kernel
theorem d_Model_wordOf_97 : decode b_Model_wordOf 97 = .ok (.iconst 1, 1) := by decide +kernel
theorem d_Model_wordOf_98 : decode b_Model_wordOf 98 = .ok (.iadd, 1) := by decide +kernel
theorem d_Model_wordOf_99 : decode b_Model_wordOf 99 = .ok (.istore 4, 2) := by decide +kernel
theorem d_Model_wordOf_101 : decode b_Model_wordOf 101 = .ok (.goto (-95), 3) := by decide +kernel
theorem d_Model_wordOf_104 : decode b_Model_wordOf 104 = .ok (.iconst (-1), 1) := by decide +kernel
theorem d_Model_wordOf_105 : decode b_Model_wordOf 105 = .ok (.ireturn, 1) := by decide +kernel
set_option maxHeartbeats 4000000 in
set_option maxRecDepth 100000 in
theorem lp_Model_wordOf_1 {p : Program} {l : Launch} {e : Env} {s : State} {m : MethodId} {args : Array Value} {below : List Frame} {meth : Method} {c : Code} {Q : State → Prop} {A : Nat → Prop} {dC : Nat → ClassId} {dI : Nat → Nat → Nat} {cB cI cL cZ cC cO : ClassId} {qr : Nat}{qm q_text : Nat}{f0 f2 f3 f4 f5 f6 f7 f8 f9 f10 f11 f12 f13 f14 f15 f16 f17 f18 f19 f20 f21 f22 f23 f24 f25 f26 f27 f28 f29 f30 f31 f32 f33 f34 f35 f36 f37 f38 f39 f40 f41 f42 f43 f44 f45 f46 f47 f48 f49 f50 f51 f52 f53 f54 f55 f56 f57 f58 f59 f60 f61 f62 f63 f64 f65 f66 f67 f68 f69 f70 : Value} {cw ft : Nat → Int32} {RR a n : Nat} {y v r : Nat} (hR : RR < 1000) (hR0 : 0 < RR) (hRl : cw (RR - 1) = nI 32) (han : a + n ≤ 2000) (hft : ∀ i, i < n → ¬ ft (a + i) = nI 32) (hx : p.tables.exec = Jvm.exec) (hb : c.code = b_Model_wordOf) (hml : c.maxLocals = 7) (hown : s.vm.findClass R_Model = some m.cls) (hts : ∀ w ∈ tb, w.before args s = true) (hA : ∀ q, s.heap.size ≤ q → A q) (hF : stF A s) (hK : va_K (dC, dI) cl [(cB, .byte), (cI, .int), (cL, .long), (cZ, .boolean), (cC, .char), (cO, .object "java/lang/Object")] s)
    (kx : ∀  (H : Heap) (locs : List Loc) (ls : Array Slot), y + r < RR → va_P (dC, dI) cl [(qm, .inr (13, [f0, .ref q_text, f2, f3, f4, f5, f6, f7, f8, f9, f10, f11, f12, f13, f14, f15, f16, f17, f18, f19, f20, f21, f22, f23, f24, f25, f26, f27, f28, f29, f30, f31, f32, f33, f34, f35, f36, f37, f38, f39, f40, f41, f42, f43, f44, f45, f46, f47, f48, f49, f50, f51, f52, f53, f54, f55, f56, f57, f58, f59, f60, f61, f62, f63, f64, f65, f66, f67, f68, f69, f70])), (q_text, .inl (cI, 2000, .inl ft)), (qr, .inl (cC, RR, .inl cw))] H → va_D A [(qm, .inr (13, [f0, .ref q_text, f2, f3, f4, f5, f6, f7, f8, f9, f10, f11, f12, f13, f14, f15, f16, f17, f18, f19, f20, f21, f22, f23, f24, f25, f26, f27, f28, f29, f30, f31, f32, f33, f34, f35, f36, f37, f38, f39, f40, f41, f42, f43, f44, f45, f46, f47, f48, f49, f50, f51, f52, f53, f54, f55, f56, f57, f58, f59, f60, f61, f62, f63, f64, f65, f66, f67, f68, f69, f70])), (q_text, .inl (cI, 2000, .inl ft)), (qr, .inl (cC, RR, .inl cw))] → va_S A s.heap H locs → lv_has ls 7 [(6, .int (nI r)), (5, .int (nI y)), (4, .int (nI v)), (0, .ref qm), (1, .ref qr), (2, .int (nI a)), (3, .int (nI n))] → W p l e (headSpec w_Model_wordOf { frames := 0, cells := 0, slots := 0, locals := 0 }).room s m args below meth c H locs 0 0 Q (F0 m 50 ls [])) :
    ∀ (k : Nat) (i : Nat) (H : Heap) (locs : List Loc) (ls : Array Slot), n < i + k → i ≤ n → y + i < RR → m_pre cw ft a y (n - i) i = r → va_P (dC, dI) cl [(qm, .inr (13, [f0, .ref q_text, f2, f3, f4, f5, f6, f7, f8, f9, f10, f11, f12, f13, f14, f15, f16, f17, f18, f19, f20, f21, f22, f23, f24, f25, f26, f27, f28, f29, f30, f31, f32, f33, f34, f35, f36, f37, f38, f39, f40, f41, f42, f43, f44, f45, f46, f47, f48, f49, f50, f51, f52, f53, f54, f55, f56, f57, f58, f59, f60, f61, f62, f63, f64, f65, f66, f67, f68, f69, f70])), (q_text, .inl (cI, 2000, .inl ft)), (qr, .inl (cC, RR, .inl cw))] H → va_D A [(qm, .inr (13, [f0, .ref q_text, f2, f3, f4, f5, f6, f7, f8, f9, f10, f11, f12, f13, f14, f15, f16, f17, f18, f19, f20, f21, f22, f23, f24, f25, f26, f27, f28, f29, f30, f31, f32, f33, f34, f35, f36, f37, f38, f39, f40, f41, f42, f43, f44, f45, f46, f47, f48, f49, f50, f51, f52, f53, f54, f55, f56, f57, f58, f59, f60, f61, f62, f63, f64, f65, f66, f67, f68, f69, f70])), (q_text, .inl (cI, 2000, .inl ft)), (qr, .inl (cC, RR, .inl cw))] → va_S A s.heap H locs → lv_has ls 7 [(6, .int (nI i)), (5, .int (nI y)), (4, .int (nI v)), (0, .ref qm), (1, .ref qr), (2, .int (nI a)), (3, .int (nI n))] → W p l e (headSpec w_Model_wordOf { frames := 0, cells := 0, slots := 0, locals := 0 }).room s m args below meth c H locs 0 0 Q (F0 m 16 ls []) := by
  intro k
  induction k with
  | zero =>
    intro i H locs ls hk hi hy hr hP hD hS hl
    exfalso; omega
  | succ k ih =>
    intro i H locs ls hk hi hy hr hP hD hS hl
    refine lv_iload hx hb d_Model_wordOf_16 (lv_at hl 0 rfl) ?_
    refine lv_iload_n hx hb d_Model_wordOf_18 rfl (lv_at hl 6 rfl) ?_
    refine nv_icmp_ge (tgt := 50) hx hb (by omega) (by omega) d_Model_wordOf_19 (by decide) (fun c_1 => ?_) (fun c_1 => ?_)
    · have hri : r = i := by first | (rw [← hr, m_pre_u, if_neg (by omega)]) | (rw [← hr, m_pre_u, if_pos (by omega), if_neg c_1])
      subst hri
      exact kx H locs ls (by omega) hP hD hS (lv_sub hl [0, 1, 2, 3, 4, 5, 6] rfl)
    · refine lv_aload_n hx hb d_Model_wordOf_22 rfl (lv_at hl 4 rfl) ?_
      refine lv_iload hx hb d_Model_wordOf_23 (lv_at hl 1 rfl) ?_
      refine lv_iload hx hb d_Model_wordOf_25 (lv_at hl 0 rfl) ?_
      refine nv_iadd hx hb d_Model_wordOf_27 ?_
      refine nv_cald hx hb hK hP 2 4 rfl rfl (by omega) (by omega) d_Model_wordOf_28 ?_
      refine lv_aload_n hx hb d_Model_wordOf_29 rfl (lv_at hl 3 rfl) ?_
      refine va_get (D := (dC, dI)) (ci := 13) (v := .ref q_text) (C := R_Model) (T := F_Model) (N := 71) hx hb hts i_Model hown hK hP 0 rfl rfl 1 (by decide) (hts _ k_875) (fun _ h9 => h9) rfl d_Model_wordOf_30 ?_
      refine lv_iload_n hx hb d_Model_wordOf_33 rfl (lv_at hl 5 rfl) ?_
      refine lv_iload hx hb d_Model_wordOf_34 (lv_at hl 0 rfl) ?_
      refine nv_iadd hx hb d_Model_wordOf_36 ?_
      refine nv_iald hx hb hK hP 1 1 rfl rfl (by omega) (by decide) d_Model_wordOf_37 ?_
      refine lv_icmp_ne (tgt := 50) hx hb d_Model_wordOf_38 (by decide) (fun c_2 => ?_) (fun c_2 => ?_)
      · have hri : r = i := by first | (rw [← hr, m_pre_u, if_neg (by omega)]) | (rw [← hr, m_pre_u, if_pos (by omega), if_neg c_2])
        subst hri
        exact kx H locs ls (by omega) hP hD hS (lv_sub hl [0, 1, 2, 3, 4, 5, 6] rfl)
      · refine lv_iload hx hb d_Model_wordOf_41 (lv_at hl 0 rfl) ?_
        refine lv_iconst (v := nI 1) hx hb d_Model_wordOf_43 (by decide) ?_
        refine nv_iadd hx hb d_Model_wordOf_44 ?_
        refine lv_istore (lv' := [(6, .int (nI (i + 1))), (5, .int (nI y)), (4, .int (nI v)), (0, .ref qm), (1, .ref qr), (2, .int (nI a)), (3, .int (nI n))]) hx hb d_Model_wordOf_45 hl (by decide) rfl (fun ls hl => ?_)
        refine lv_goto (tgt := 16) hx hb d_Model_wordOf_47 (by decide) ?_
        have hne : ¬ y + i = RR - 1 := fun q => hft i (by omega) (by rw [← c_2, q]; exact hRl)
        exact ih (i + 1) H locs ls (by omega) (by omega) (by omega) (by rw [← hr, m_pre_u cw ft a y n i, if_pos (by omega), if_pos c_2]) hP hD hS (lv_sub hl [0, 1, 2, 3, 4, 5, 6] rfl)
set_option maxHeartbeats 4000000 in
set_option maxRecDepth 100000 in
theorem lp_Model_wordOf_2 {p : Program} {l : Launch} {e : Env} {s : State} {m : MethodId} {args : Array Value} {below : List Frame} {meth : Method} {c : Code} {Q : State → Prop} {A : Nat → Prop} {dC : Nat → ClassId} {dI : Nat → Nat → Nat} {cB cI cL cZ cC cO : ClassId} {qr : Nat}{qm q_text : Nat}{f0 f2 f3 f4 f5 f6 f7 f8 f9 f10 f11 f12 f13 f14 f15 f16 f17 f18 f19 f20 f21 f22 f23 f24 f25 f26 f27 f28 f29 f30 f31 f32 f33 f34 f35 f36 f37 f38 f39 f40 f41 f42 f43 f44 f45 f46 f47 f48 f49 f50 f51 f52 f53 f54 f55 f56 f57 f58 f59 f60 f61 f62 f63 f64 f65 f66 f67 f68 f69 f70 : Value} {cw ft : Nat → Int32} {RR a n : Nat} {v r : Nat} (hR : RR < 1000) (hR0 : 0 < RR) (hRl : cw (RR - 1) = nI 32) (han : a + n ≤ 2000) (hft : ∀ i, i < n → ¬ ft (a + i) = nI 32) (hx : p.tables.exec = Jvm.exec) (hb : c.code = b_Model_wordOf) (hml : c.maxLocals = 7) (hown : s.vm.findClass R_Model = some m.cls) (hts : ∀ w ∈ tb, w.before args s = true) (hA : ∀ q, s.heap.size ≤ q → A q) (hF : stF A s) (hK : va_K (dC, dI) cl [(cB, .byte), (cI, .int), (cL, .long), (cZ, .boolean), (cC, .char), (cO, .object "java/lang/Object")] s)
    (kx : ∀  (H : Heap) (locs : List Loc) (ls : Array Slot), r < RR → va_P (dC, dI) cl [(qm, .inr (13, [f0, .ref q_text, f2, f3, f4, f5, f6, f7, f8, f9, f10, f11, f12, f13, f14, f15, f16, f17, f18, f19, f20, f21, f22, f23, f24, f25, f26, f27, f28, f29, f30, f31, f32, f33, f34, f35, f36, f37, f38, f39, f40, f41, f42, f43, f44, f45, f46, f47, f48, f49, f50, f51, f52, f53, f54, f55, f56, f57, f58, f59, f60, f61, f62, f63, f64, f65, f66, f67, f68, f69, f70])), (q_text, .inl (cI, 2000, .inl ft)), (qr, .inl (cC, RR, .inl cw))] H → va_D A [(qm, .inr (13, [f0, .ref q_text, f2, f3, f4, f5, f6, f7, f8, f9, f10, f11, f12, f13, f14, f15, f16, f17, f18, f19, f20, f21, f22, f23, f24, f25, f26, f27, f28, f29, f30, f31, f32, f33, f34, f35, f36, f37, f38, f39, f40, f41, f42, f43, f44, f45, f46, f47, f48, f49, f50, f51, f52, f53, f54, f55, f56, f57, f58, f59, f60, f61, f62, f63, f64, f65, f66, f67, f68, f69, f70])), (q_text, .inl (cI, 2000, .inl ft)), (qr, .inl (cC, RR, .inl cw))] → va_S A s.heap H locs → lv_has ls 7 [(5, .int (nI r)), (4, .int (nI v)), (0, .ref qm), (1, .ref qr), (2, .int (nI a)), (3, .int (nI n))] → W p l e (headSpec w_Model_wordOf { frames := 0, cells := 0, slots := 0, locals := 0 }).room s m args below meth c H locs 0 0 Q (F0 m 89 ls [])) :
    ∀ (k : Nat) (y : Nat) (H : Heap) (locs : List Loc) (ls : Array Slot), RR < y + k → y < RR → m_sp cw (RR - y) y = r → va_P (dC, dI) cl [(qm, .inr (13, [f0, .ref q_text, f2, f3, f4, f5, f6, f7, f8, f9, f10, f11, f12, f13, f14, f15, f16, f17, f18, f19, f20, f21, f22, f23, f24, f25, f26, f27, f28, f29, f30, f31, f32, f33, f34, f35, f36, f37, f38, f39, f40, f41, f42, f43, f44, f45, f46, f47, f48, f49, f50, f51, f52, f53, f54, f55, f56, f57, f58, f59, f60, f61, f62, f63, f64, f65, f66, f67, f68, f69, f70])), (q_text, .inl (cI, 2000, .inl ft)), (qr, .inl (cC, RR, .inl cw))] H → va_D A [(qm, .inr (13, [f0, .ref q_text, f2, f3, f4, f5, f6, f7, f8, f9, f10, f11, f12, f13, f14, f15, f16, f17, f18, f19, f20, f21, f22, f23, f24, f25, f26, f27, f28, f29, f30, f31, f32, f33, f34, f35, f36, f37, f38, f39, f40, f41, f42, f43, f44, f45, f46, f47, f48, f49, f50, f51, f52, f53, f54, f55, f56, f57, f58, f59, f60, f61, f62, f63, f64, f65, f66, f67, f68, f69, f70])), (q_text, .inl (cI, 2000, .inl ft)), (qr, .inl (cC, RR, .inl cw))] → va_S A s.heap H locs → lv_has ls 7 [(5, .int (nI y)), (4, .int (nI v)), (0, .ref qm), (1, .ref qr), (2, .int (nI a)), (3, .int (nI n))] → W p l e (headSpec w_Model_wordOf { frames := 0, cells := 0, slots := 0, locals := 0 }).room s m args below meth c H locs 0 0 Q (F0 m 71 ls []) := by
  intro k
  induction k with
  | zero =>
    intro y H locs ls hk hy hr hP hD hS hl
    exfalso; omega
  | succ k ih =>
    intro y H locs ls hk hy hr hP hD hS hl
    refine lv_aload_n hx hb d_Model_wordOf_71 rfl (lv_at hl 3 rfl) ?_
    refine lv_iload hx hb d_Model_wordOf_72 (lv_at hl 0 rfl) ?_
    refine nv_cald hx hb hK hP 2 4 rfl rfl (by omega) (by omega) d_Model_wordOf_74 ?_
    refine lv_bipush (v := nI 32) hx hb d_Model_wordOf_75 (by decide) ?_
    refine lv_icmp_eq (tgt := 89) hx hb d_Model_wordOf_77 (by decide) (fun c_1 => ?_) (fun c_1 => ?_)
    · have hri : r = y := by rw [← hr, m_sp_u, if_pos (by omega), if_pos c_1]
      subst hri
      exact kx H locs ls (by omega) hP hD hS (lv_sub hl [0, 1, 2, 3, 4, 5] rfl)
    · refine lv_iload hx hb d_Model_wordOf_80 (lv_at hl 0 rfl) ?_
      refine lv_iconst (v := nI 1) hx hb d_Model_wordOf_82 (by decide) ?_
      refine nv_iadd hx hb d_Model_wordOf_83 ?_
      refine lv_istore (lv' := [(5, .int (nI (y + 1))), (4, .int (nI v)), (0, .ref qm), (1, .ref qr), (2, .int (nI a)), (3, .int (nI n))]) hx hb d_Model_wordOf_84 hl (by decide) rfl (fun ls hl => ?_)
      refine lv_goto (tgt := 71) hx hb d_Model_wordOf_86 (by decide) ?_
      have hne : ¬ y = RR - 1 := fun q => c_1 (by rw [q]; exact hRl)
      exact ih (y + 1) H locs ls (by omega) (by omega) (by rw [← hr, m_sp_u cw RR y, if_pos (by omega), if_neg c_1]) hP hD hS (lv_sub hl [0, 1, 2, 3, 4, 5] rfl)
set_option maxHeartbeats 4000000 in
set_option maxRecDepth 100000 in
theorem lp_Model_wordOf {p : Program} {l : Launch} {e : Env} {s : State} {m : MethodId} {args : Array Value} {below : List Frame} {meth : Method} {c : Code} {Q : State → Prop} {A : Nat → Prop} {dC : Nat → ClassId} {dI : Nat → Nat → Nat} {cB cI cL cZ cC cO : ClassId} {qr : Nat}{qm q_text : Nat}{f0 f2 f3 f4 f5 f6 f7 f8 f9 f10 f11 f12 f13 f14 f15 f16 f17 f18 f19 f20 f21 f22 f23 f24 f25 f26 f27 f28 f29 f30 f31 f32 f33 f34 f35 f36 f37 f38 f39 f40 f41 f42 f43 f44 f45 f46 f47 f48 f49 f50 f51 f52 f53 f54 f55 f56 f57 f58 f59 f60 f61 f62 f63 f64 f65 f66 f67 f68 f69 f70 : Value} {cw ft : Nat → Int32} {RR a n : Nat} {r : Option Nat} (hR : RR < 1000) (hR0 : 0 < RR) (hRl : cw (RR - 1) = nI 32) (han : a + n ≤ 2000) (hft : ∀ i, i < n → ¬ ft (a + i) = nI 32) (hx : p.tables.exec = Jvm.exec) (hb : c.code = b_Model_wordOf) (hml : c.maxLocals = 7) (hown : s.vm.findClass R_Model = some m.cls) (hts : ∀ w ∈ tb, w.before args s = true) (hA : ∀ q, s.heap.size ≤ q → A q) (hF : stF A s) (hK : va_K (dC, dI) cl [(cB, .byte), (cI, .int), (cL, .long), (cZ, .boolean), (cC, .char), (cO, .object "java/lang/Object")] s)
    (kx : ∀  (H : Heap) (locs : List Loc) (ls : Array Slot), va_P (dC, dI) cl [(qm, .inr (13, [f0, .ref q_text, f2, f3, f4, f5, f6, f7, f8, f9, f10, f11, f12, f13, f14, f15, f16, f17, f18, f19, f20, f21, f22, f23, f24, f25, f26, f27, f28, f29, f30, f31, f32, f33, f34, f35, f36, f37, f38, f39, f40, f41, f42, f43, f44, f45, f46, f47, f48, f49, f50, f51, f52, f53, f54, f55, f56, f57, f58, f59, f60, f61, f62, f63, f64, f65, f66, f67, f68, f69, f70])), (q_text, .inl (cI, 2000, .inl ft)), (qr, .inl (cC, RR, .inl cw))] H → va_D A [(qm, .inr (13, [f0, .ref q_text, f2, f3, f4, f5, f6, f7, f8, f9, f10, f11, f12, f13, f14, f15, f16, f17, f18, f19, f20, f21, f22, f23, f24, f25, f26, f27, f28, f29, f30, f31, f32, f33, f34, f35, f36, f37, f38, f39, f40, f41, f42, f43, f44, f45, f46, f47, f48, f49, f50, f51, f52, f53, f54, f55, f56, f57, f58, f59, f60, f61, f62, f63, f64, f65, f66, f67, f68, f69, f70])), (q_text, .inl (cI, 2000, .inl ft)), (qr, .inl (cC, RR, .inl cw))] → va_S A s.heap H locs → lv_has ls 7 [(0, .ref qm), (1, .ref qr), (2, .int (nI a)), (3, .int (nI n))] → W p l e (headSpec w_Model_wordOf { frames := 0, cells := 0, slots := 0, locals := 0 }).room s m args below meth c H locs 0 0 Q (F0 m 70 ls [.int (oI r)])) (ky : ∀  (H : Heap) (locs : List Loc) (ls : Array Slot), va_P (dC, dI) cl [(qm, .inr (13, [f0, .ref q_text, f2, f3, f4, f5, f6, f7, f8, f9, f10, f11, f12, f13, f14, f15, f16, f17, f18, f19, f20, f21, f22, f23, f24, f25, f26, f27, f28, f29, f30, f31, f32, f33, f34, f35, f36, f37, f38, f39, f40, f41, f42, f43, f44, f45, f46, f47, f48, f49, f50, f51, f52, f53, f54, f55, f56, f57, f58, f59, f60, f61, f62, f63, f64, f65, f66, f67, f68, f69, f70])), (q_text, .inl (cI, 2000, .inl ft)), (qr, .inl (cC, RR, .inl cw))] H → va_D A [(qm, .inr (13, [f0, .ref q_text, f2, f3, f4, f5, f6, f7, f8, f9, f10, f11, f12, f13, f14, f15, f16, f17, f18, f19, f20, f21, f22, f23, f24, f25, f26, f27, f28, f29, f30, f31, f32, f33, f34, f35, f36, f37, f38, f39, f40, f41, f42, f43, f44, f45, f46, f47, f48, f49, f50, f51, f52, f53, f54, f55, f56, f57, f58, f59, f60, f61, f62, f63, f64, f65, f66, f67, f68, f69, f70])), (q_text, .inl (cI, 2000, .inl ft)), (qr, .inl (cC, RR, .inl cw))] → va_S A s.heap H locs → lv_has ls 7 [(0, .ref qm), (1, .ref qr), (2, .int (nI a)), (3, .int (nI n))] → W p l e (headSpec w_Model_wordOf { frames := 0, cells := 0, slots := 0, locals := 0 }).room s m args below meth c H locs 0 0 Q (F0 m 105 ls [.int (oI r)])) :
    ∀ (k : Nat) (j v y : Nat) (H : Heap) (locs : List Loc) (ls : Array Slot), RR < y + k → y ≤ RR → RR ≤ j + y → v ≤ y → m_word cw ft RR a n j v y = r → va_P (dC, dI) cl [(qm, .inr (13, [f0, .ref q_text, f2, f3, f4, f5, f6, f7, f8, f9, f10, f11, f12, f13, f14, f15, f16, f17, f18, f19, f20, f21, f22, f23, f24, f25, f26, f27, f28, f29, f30, f31, f32, f33, f34, f35, f36, f37, f38, f39, f40, f41, f42, f43, f44, f45, f46, f47, f48, f49, f50, f51, f52, f53, f54, f55, f56, f57, f58, f59, f60, f61, f62, f63, f64, f65, f66, f67, f68, f69, f70])), (q_text, .inl (cI, 2000, .inl ft)), (qr, .inl (cC, RR, .inl cw))] H → va_D A [(qm, .inr (13, [f0, .ref q_text, f2, f3, f4, f5, f6, f7, f8, f9, f10, f11, f12, f13, f14, f15, f16, f17, f18, f19, f20, f21, f22, f23, f24, f25, f26, f27, f28, f29, f30, f31, f32, f33, f34, f35, f36, f37, f38, f39, f40, f41, f42, f43, f44, f45, f46, f47, f48, f49, f50, f51, f52, f53, f54, f55, f56, f57, f58, f59, f60, f61, f62, f63, f64, f65, f66, f67, f68, f69, f70])), (q_text, .inl (cI, 2000, .inl ft)), (qr, .inl (cC, RR, .inl cw))] → va_S A s.heap H locs → lv_has ls 7 [(5, .int (nI y)), (4, .int (nI v)), (0, .ref qm), (1, .ref qr), (2, .int (nI a)), (3, .int (nI n))] → W p l e (headSpec w_Model_wordOf { frames := 0, cells := 0, slots := 0, locals := 0 }).room s m args below meth c H locs 0 0 Q (F0 m 6 ls []) := by
  intro k
  induction k with
  | zero =>
    intro j v y H locs ls hk hy hj hv hr hP hD hS hl
    exfalso; omega
  | succ k ih =>
    intro j v y H locs ls hk hy hj hv hr hP hD hS hl
    refine lv_iload hx hb d_Model_wordOf_6 (lv_at hl 0 rfl) ?_
    refine lv_aload_n hx hb d_Model_wordOf_8 rfl (lv_at hl 3 rfl) ?_
    refine va_alen (v := nI RR) hx hb hK hP 2 4 rfl rfl rfl d_Model_wordOf_9 ?_
    refine nv_icmp_ge (tgt := 104) hx hb (by omega) (by omega) d_Model_wordOf_10 (by decide) (fun c_1 => ?_) (fun c_1 => ?_)
    · refine lv_iconst (v := (-1)) hx hb d_Model_wordOf_104 (by decide) ?_
      have hri : none = r := by rw [← hr, m_word_e (by omega)]
      subst hri
      exact ky H locs ls hP hD hS (lv_sub hl [2, 3, 4, 5] rfl)
    · obtain ⟨j, rfl⟩ : ∃ j', j = j' + 1 := ⟨j - 1, by omega⟩
      have hyR : y < RR := c_1
      refine lv_iconst (v := nI 0) hx hb d_Model_wordOf_13 (by decide) ?_
      refine lv_istore (lv' := [(6, .int (nI 0)), (5, .int (nI y)), (4, .int (nI v)), (0, .ref qm), (1, .ref qr), (2, .int (nI a)), (3, .int (nI n))]) hx hb d_Model_wordOf_14 hl (by decide) rfl (fun ls hl => ?_)
      refine lp_Model_wordOf_1 (r := m_pre cw ft a y n 0) hR hR0 hRl han hft hx hb hml hown hts hA hF hK (fun H locs ls hpr hP hD hS hl => ?_) (n + 1) 0 _ _ ls (by omega) (by omega) (by omega) rfl hP hD hS (lv_sub hl [0, 1, 2, 3, 4, 5, 6] rfl)
      refine lv_iload hx hb d_Model_wordOf_50 (lv_at hl 0 rfl) ?_
      refine lv_iload_n hx hb d_Model_wordOf_52 rfl (lv_at hl 6 rfl) ?_
      refine nv_icmp_ne (tgt := 71) hx hb (by omega) (by omega) d_Model_wordOf_53 (by decide) (fun c_2 => ?_) (fun c_2 => ?_)
      · have hno : ¬ (m_pre cw ft a y n 0 = n ∧ cw (y + m_pre cw ft a y n 0) = nI 32) := fun q => by first | exact c_2 q.1 | exact c_2 q.2
        refine lp_Model_wordOf_2 (r := m_sp cw (RR - y) y) hR hR0 hRl han hft hx hb hml hown hts hA hF hK (fun H locs ls hsp hP hD hS hl => ?_) (RR + 1) y _ _ ls (by omega) (by omega) rfl hP hD hS (lv_sub hl [1, 2, 3, 4, 5, 6] rfl)
        refine lv_iload hx hb d_Model_wordOf_89 (lv_at hl 0 rfl) ?_
        refine lv_iconst (v := nI 1) hx hb d_Model_wordOf_91 (by decide) ?_
        refine nv_iadd hx hb d_Model_wordOf_92 ?_
        refine lv_istore (lv' := [(5, .int (nI ((m_sp cw (RR - y) y) + 1))), (4, .int (nI v)), (0, .ref qm), (1, .ref qr), (2, .int (nI a)), (3, .int (nI n))]) hx hb d_Model_wordOf_93 hl (by decide) rfl (fun ls hl => ?_)
        refine lv_iload hx hb d_Model_wordOf_95 (lv_at hl 1 rfl) ?_
        refine lv_iconst (v := nI 1) hx hb d_Model_wordOf_97 (by decide) ?_
        refine nv_iadd hx hb d_Model_wordOf_98 ?_
        refine lv_istore (lv' := [(4, .int (nI (v + 1))), (5, .int (nI ((m_sp cw (RR - y) y) + 1))), (0, .ref qm), (1, .ref qr), (2, .int (nI a)), (3, .int (nI n))]) hx hb d_Model_wordOf_99 hl (by decide) rfl (fun ls hl => ?_)
        refine lv_goto (tgt := 6) hx hb d_Model_wordOf_101 (by decide) ?_
        have hge := m_sp_ge cw (RR - y) y
        exact ih j (v + 1) (m_sp cw (RR - y) y + 1) H locs ls (by omega) (by omega) (by omega) (by omega) (by rw [← hr, m_word_s, if_pos hyR, if_neg hno]) hP hD hS (lv_sub hl [1, 0, 2, 3, 4, 5] rfl)
      · refine lv_aload_n hx hb d_Model_wordOf_56 rfl (lv_at hl 4 rfl) ?_
        refine lv_iload hx hb d_Model_wordOf_57 (lv_at hl 1 rfl) ?_
        refine lv_iload hx hb d_Model_wordOf_59 (lv_at hl 0 rfl) ?_
        refine nv_iadd hx hb d_Model_wordOf_61 ?_
        refine nv_cald hx hb hK hP 2 4 rfl rfl (by omega) (by omega) d_Model_wordOf_62 ?_
        refine lv_bipush (v := nI 32) hx hb d_Model_wordOf_63 (by decide) ?_
        refine lv_icmp_ne (tgt := 71) hx hb d_Model_wordOf_65 (by decide) (fun c_3 => ?_) (fun c_3 => ?_)
        · have hno : ¬ (m_pre cw ft a y n 0 = n ∧ cw (y + m_pre cw ft a y n 0) = nI 32) := fun q => by first | exact c_3 q.1 | exact c_3 q.2
          refine lp_Model_wordOf_2 (r := m_sp cw (RR - y) y) hR hR0 hRl han hft hx hb hml hown hts hA hF hK (fun H locs ls hsp hP hD hS hl => ?_) (RR + 1) y _ _ ls (by omega) (by omega) rfl hP hD hS (lv_sub hl [1, 2, 3, 4, 5, 6] rfl)
          refine lv_iload hx hb d_Model_wordOf_89 (lv_at hl 0 rfl) ?_
          refine lv_iconst (v := nI 1) hx hb d_Model_wordOf_91 (by decide) ?_
          refine nv_iadd hx hb d_Model_wordOf_92 ?_
          refine lv_istore (lv' := [(5, .int (nI ((m_sp cw (RR - y) y) + 1))), (4, .int (nI v)), (0, .ref qm), (1, .ref qr), (2, .int (nI a)), (3, .int (nI n))]) hx hb d_Model_wordOf_93 hl (by decide) rfl (fun ls hl => ?_)
          refine lv_iload hx hb d_Model_wordOf_95 (lv_at hl 1 rfl) ?_
          refine lv_iconst (v := nI 1) hx hb d_Model_wordOf_97 (by decide) ?_
          refine nv_iadd hx hb d_Model_wordOf_98 ?_
          refine lv_istore (lv' := [(4, .int (nI (v + 1))), (5, .int (nI ((m_sp cw (RR - y) y) + 1))), (0, .ref qm), (1, .ref qr), (2, .int (nI a)), (3, .int (nI n))]) hx hb d_Model_wordOf_99 hl (by decide) rfl (fun ls hl => ?_)
          refine lv_goto (tgt := 6) hx hb d_Model_wordOf_101 (by decide) ?_
          have hge := m_sp_ge cw (RR - y) y
          exact ih j (v + 1) (m_sp cw (RR - y) y + 1) H locs ls (by omega) (by omega) (by omega) (by omega) (by rw [← hr, m_word_s, if_pos hyR, if_neg hno]) hP hD hS (lv_sub hl [1, 0, 2, 3, 4, 5] rfl)
        · refine lv_iload hx hb d_Model_wordOf_68 (lv_at hl 2 rfl) ?_
          have hri : some v = r := by rw [← hr, m_word_s, if_pos hyR, if_pos ⟨c_2, c_3⟩]
          subst hri
          exact kx H locs ls hP hD hS (lv_sub hl [3, 4, 5, 6] rfl)
set_option maxHeartbeats 4000000 in
set_option maxRecDepth 100000 in
/-- wordOf(row, a, n) -/
theorem c_Model_wordOf (l : Launch) (dC : Nat → ClassId) (dI : Nat → Nat → Nat) (cB cI cL cZ cC cO : ClassId) {qr : Nat}{qm q_text : Nat}{f0 f2 f3 f4 f5 f6 f7 f8 f9 f10 f11 f12 f13 f14 f15 f16 f17 f18 f19 f20 f21 f22 f23 f24 f25 f26 f27 f28 f29 f30 f31 f32 f33 f34 f35 f36 f37 f38 f39 f40 f41 f42 f43 f44 f45 f46 f47 f48 f49 f50 f51 f52 f53 f54 f55 f56 f57 f58 f59 f60 f61 f62 f63 f64 f65 f66 f67 f68 f69 f70 : Value} (cw ft : Nat → Int32) (RR a n : Nat) (sz : Nat) (hR : RR < 1000) (hR0 : 0 < RR) (hRl : cw (RR - 1) = nI 32) (han : a + n ≤ 2000) (hft : ∀ i, i < n → ¬ ft (a + i) = nI 32) : Met l y_Model_wordOf w_Model_wordOf ({ frames := 0, cells := 0, slots := 0, locals := 0 }) (va_Pc [.ref qm, .ref qr, .int (nI a), .int (nI n)] (wB (dC, dI) cl [(cB, .byte), (cI, .int), (cL, .long), (cZ, .boolean), (cC, .char), (cO, .object "java/lang/Object")] sz [(qm, .inr (13, [f0, .ref q_text, f2, f3, f4, f5, f6, f7, f8, f9, f10, f11, f12, f13, f14, f15, f16, f17, f18, f19, f20, f21, f22, f23, f24, f25, f26, f27, f28, f29, f30, f31, f32, f33, f34, f35, f36, f37, f38, f39, f40, f41, f42, f43, f44, f45, f46, f47, f48, f49, f50, f51, f52, f53, f54, f55, f56, f57, f58, f59, f60, f61, f62, f63, f64, f65, f66, f67, f68, f69, f70])), (q_text, .inl (cI, 2000, .inl ft)), (qr, .inl (cC, RR, .inl cw))])) (va_Qi (fun (r : Int32) (u : Unit) => r = oI (m_word cw ft RR a n RR 0 0)) (fun _ t => wA (dC, dI) cl [(cB, .byte), (cI, .int), (cL, .long), (cZ, .boolean), (cC, .char), (cO, .object "java/lang/Object")] (va_A [(qm, .inr (13, [f0, .ref q_text, f2, f3, f4, f5, f6, f7, f8, f9, f10, f11, f12, f13, f14, f15, f16, f17, f18, f19, f20, f21, f22, f23, f24, f25, f26, f27, f28, f29, f30, f31, f32, f33, f34, f35, f36, f37, f38, f39, f40, f41, f42, f43, f44, f45, f46, f47, f48, f49, f50, f51, f52, f53, f54, f55, f56, f57, f58, f59, f60, f61, f62, f63, f64, f65, f66, f67, f68, f69, f70])), (q_text, .inl (cI, 2000, .inl ft)), (qr, .inl (cC, RR, .inl cw))] sz) [(qm, .inr (13, [f0, .ref q_text, f2, f3, f4, f5, f6, f7, f8, f9, f10, f11, f12, f13, f14, f15, f16, f17, f18, f19, f20, f21, f22, f23, f24, f25, f26, f27, f28, f29, f30, f31, f32, f33, f34, f35, f36, f37, f38, f39, f40, f41, f42, f43, f44, f45, f46, f47, f48, f49, f50, f51, f52, f53, f54, f55, f56, f57, f58, f59, f60, f61, f62, f63, f64, f65, f66, f67, f68, f69, f70])), (q_text, .inl (cI, 2000, .inl ft)), (qr, .inl (cC, RR, .inl cw))] t) (va_A [(qm, .inr (13, [f0, .ref q_text, f2, f3, f4, f5, f6, f7, f8, f9, f10, f11, f12, f13, f14, f15, f16, f17, f18, f19, f20, f21, f22, f23, f24, f25, f26, f27, f28, f29, f30, f31, f32, f33, f34, f35, f36, f37, f38, f39, f40, f41, f42, f43, f44, f45, f46, f47, f48, f49, f50, f51, f52, f53, f54, f55, f56, f57, f58, f59, f60, f61, f62, f63, f64, f65, f66, f67, f68, f69, f70])), (q_text, .inl (cI, 2000, .inl ft)), (qr, .inl (cC, RR, .inl cw))] sz)) 0 0 (va_A [(qm, .inr (13, [f0, .ref q_text, f2, f3, f4, f5, f6, f7, f8, f9, f10, f11, f12, f13, f14, f15, f16, f17, f18, f19, f20, f21, f22, f23, f24, f25, f26, f27, f28, f29, f30, f31, f32, f33, f34, f35, f36, f37, f38, f39, f40, f41, f42, f43, f44, f45, f46, f47, f48, f49, f50, f51, f52, f53, f54, f55, f56, f57, f58, f59, f60, f61, f62, f63, f64, f65, f66, f67, f68, f69, f70])), (q_text, .inl (cI, 2000, .inl ft)), (qr, .inl (cC, RR, .inl cw))] sz) := by
  refine Met.ofW (cc := b_Model_wordOf) (maxL := 7) (ret := (some ClassFile.FieldType.int)) (by decide) rfl ?_
  intro p e s m args below meth c s₁ B hml hv
  obtain ⟨rfl, hsz, hP, hK, hD0, hF⟩ := hv
  have hx := B.exec
  have hb := B.bytes
  have hr := B.returns
  have hts := atoms_spec (ws := w_Model_wordOf) B.pre
  have hts : ∀ w ∈ tb, w.before _ s = true := fun w h => hts w (List.mem_cons_of_mem _ h)
  have hown : s.vm.findClass R_Model = some m.cls := findClass_of_methodNamed B.named
  have hlocks := B.notSynchronized
  subst hsz
  have hD := hD0.self (sz := s.heap.size)
  generalize hAe : va_A [(qm, .inr (13, [f0, .ref q_text, f2, f3, f4, f5, f6, f7, f8, f9, f10, f11, f12, f13, f14, f15, f16, f17, f18, f19, f20, f21, f22, f23, f24, f25, f26, f27, f28, f29, f30, f31, f32, f33, f34, f35, f36, f37, f38, f39, f40, f41, f42, f43, f44, f45, f46, f47, f48, f49, f50, f51, f52, f53, f54, f55, f56, f57, f58, f59, f60, f61, f62, f63, f64, f65, f66, f67, f68, f69, f70])), (q_text, .inl (cI, 2000, .inl ft)), (qr, .inl (cC, RR, .inl cw))] s.heap.size = A at hD hF ⊢
  have hA : ∀ q : Nat, s.heap.size ≤ q → A q := fun q h => by rw [← hAe]; exact Or.inr h
  have hS : va_S A s.heap s.heap [] := va_S.rf
  have hP : va_P (dC, dI) cl [(qm, .inr (13, [f0, .ref q_text, f2, f3, f4, f5, f6, f7, f8, f9, f10, f11, f12, f13, f14, f15, f16, f17, f18, f19, f20, f21, f22, f23, f24, f25, f26, f27, f28, f29, f30, f31, f32, f33, f34, f35, f36, f37, f38, f39, f40, f41, f42, f43, f44, f45, f46, f47, f48, f49, f50, f51, f52, f53, f54, f55, f56, f57, f58, f59, f60, f61, f62, f63, f64, f65, f66, f67, f68, f69, f70])), (q_text, .inl (cI, 2000, .inl ft)), (qr, .inl (cC, RR, .inl cw))] s.heap := hP
  have hl := lv_entry ([.ref qm, .ref qr, .int (nI a), .int (nI n)]) (n := 7) (Nat.le_of_ble_eq_true rfl)
  rw [lg_entry_eq]
  generalize (lg_sl ([.ref qm, .ref qr, .int (nI a), .int (nI n)]) ++ List.replicate (7 - (lg_sl ([.ref qm, .ref qr, .int (nI a), .int (nI n)])).length) Slot.unset).toArray = ls at hl ⊢
  have hl : lv_has ls 7 [(0, .ref qm), (1, .ref qr), (2, .int (nI a)), (3, .int (nI n))] := hl
  refine lv_iconst (v := nI 0) hx hb d_Model_wordOf_0 (by decide) ?_
  refine lv_istore (lv' := [(4, .int (nI 0)), (0, .ref qm), (1, .ref qr), (2, .int (nI a)), (3, .int (nI n))]) hx hb d_Model_wordOf_1 hl (by decide) rfl (fun ls hl => ?_)
  refine lv_iconst (v := nI 0) hx hb d_Model_wordOf_3 (by decide) ?_
  refine lv_istore (lv' := [(5, .int (nI 0)), (4, .int (nI 0)), (0, .ref qm), (1, .ref qr), (2, .int (nI a)), (3, .int (nI n))]) hx hb d_Model_wordOf_4 hl (by decide) rfl (fun ls hl => ?_)
  refine lp_Model_wordOf (r := m_word cw ft RR a n RR 0 0) hR hR0 hRl han hft hx hb hml hown hts hA hF hK (fun H locs ls hP hD hS hl => ?_) (fun H locs ls hP hD hS hl => ?_) (RR + 1) RR 0 0 _ _ ls (by omega) (by omega) (by omega) (by omega) rfl hP hD hS (lv_sub hl [0, 1, 2, 3, 4, 5] rfl)
  · exact wr_i hx hb hr hlocks () rfl hK hP hD hS d_Model_wordOf_70
  · exact wr_i hx hb hr hlocks () rfl hK hP hD hS d_Model_wordOf_105
def m_same (ft : Nat → Int32) (a b : Nat) : Nat → Nat → Bool → Bool
  | 0, _, x => x
  | k + 1, i, x => if x = true then m_same ft a b k (i + 1) (decide (ft (a + i) = ft (b + i))) else x
theorem m_same_u (ft : Nat → Int32) (a b z i : Nat) (x : Bool) : m_same ft a b (z - i) i x = if i < z then (if x = true then m_same ft a b (z - (i + 1)) (i + 1) (decide (ft (a + i) = ft (b + i))) else x) else x := by
  by_cases h : i < z
  · rw [if_pos h, show z - i = (z - (i + 1)) + 1 by omega]; rfl
  · rw [if_neg h, show z - i = 0 by omega]; rfl
def m_like (ft : Nat → Int32) (ta ts : Nat → Nat) (t u : Nat) : Bool := m_same ft (ta t) (ta u) (ts t) 0 (decide (ts t = ts u))
theorem d_Model_like_0 : decode b_Model_like 0 = .ok (.aload_n 0, 1) := by decide +kernel
theorem d_Model_like_1 : decode b_Model_like 1 = .ok (.getfield 27, 3) := by decide +kernel
theorem d_Model_like_4 : decode b_Model_like 4 = .ok (.iload_n 1, 1) := by decide +kernel
theorem d_Model_like_5 : decode b_Model_like 5 = .ok (.iaload, 1) := by decide +kernel
theorem d_Model_like_6 : decode b_Model_like 6 = .ok (.aload_n 0, 1) := by decide +kernel
theorem d_Model_like_7 : decode b_Model_like 7 = .ok (.getfield 27, 3) := by decide +kernel
theorem d_Model_like_10 : decode b_Model_like 10 = .ok (.iload_n 2, 1) := by decide +kernel
theorem d_Model_like_11 : decode b_Model_like 11 = .ok (.iaload, 1) := by decide +kernel
theorem d_Model_like_12 : decode b_Model_like 12 = .ok (.if_icmp .ne 7, 3) := by decide +kernel
theorem d_Model_like_15 : decode b_Model_like 15 = .ok (.iconst 1, 1) := by decide +kernel
theorem d_Model_like_16 : decode b_Model_like 16 = .ok (.goto 4, 3) := by decide +kernel
theorem d_Model_like_19 : decode b_Model_like 19 = .ok (.iconst 0, 1) := by decide +kernel
theorem d_Model_like_20 : decode b_Model_like 20 = .ok (.istore_n 3, 1) := by decide +kernel
theorem d_Model_like_21 : decode b_Model_like 21 = .ok (.iconst 0, 1) := by decide +kernel
theorem d_Model_like_22 : decode b_Model_like 22 = .ok (.istore 4, 2) := by decide +kernel
theorem d_Model_like_24 : decode b_Model_like 24 = .ok (.iload 4, 2) := by decide +kernel
theorem d_Model_like_26 : decode b_Model_like 26 = .ok (.aload_n 0, 1) := by decide +kernel
theorem d_Model_like_27 : decode b_Model_like 27 = .ok (.getfield 27, 3) := by decide +kernel
theorem d_Model_like_30 : decode b_Model_like 30 = .ok (.iload_n 1, 1) := by decide +kernel
theorem d_Model_like_31 : decode b_Model_like 31 = .ok (.iaload, 1) := by decide +kernel
theorem d_Model_like_32 : decode b_Model_like 32 = .ok (.if_icmp .ge 50, 3) := by decide +kernel
theorem d_Model_like_35 : decode b_Model_like 35 = .ok (.iload_n 3, 1) := by decide +kernel
theorem d_Model_like_36 : decode b_Model_like 36 = .ok (.ifCond .eq 46, 3) := by decide +kernel
theorem d_Model_like_39 : decode b_Model_like 39 = .ok (.aload_n 0, 1) := by decide +kernel
theorem d_Model_like_40 : decode b_Model_like 40 = .ok (.getfield 13, 3) := by decide +kernel
theorem d_Model_like_43 : decode b_Model_like 43 = .ok (.aload_n 0, 1) := by decide +kernel
theorem d_Model_like_44 : decode b_Model_like 44 = .ok (.getfield 24, 3) := by decide +kernel
theorem d_Model_like_47 : decode b_Model_like 47 = .ok (.iload_n 1, 1) := by decide +kernel
theorem d_Model_like_48 : decode b_Model_like 48 = .ok (.iaload, 1) := by decide +kernel
theorem d_Model_like_49 : decode b_Model_like 49 = .ok (.iload 4, 2) := by decide +kernel
theorem d_Model_like_51 : decode b_Model_like 51 = .ok (.iadd, 1) := by decide +kernel
theorem d_Model_like_52 : decode b_Model_like 52 = .ok (.iaload, 1) := by decide +kernel
theorem d_Model_like_53 : decode b_Model_like 53 = .ok (.aload_n 0, 1) := by decide +kernel
theorem d_Model_like_54 : decode b_Model_like 54 = .ok (.getfield 13, 3) := by decide +kernel
theorem d_Model_like_57 : decode b_Model_like 57 = .ok (.aload_n 0, 1) := by decide +kernel
theorem d_Model_like_58 : decode b_Model_like 58 = .ok (.getfield 24, 3) := by decide +kernel
theorem d_Model_like_61 : decode b_Model_like 61 = .ok (.iload_n 2, 1) := by decide +kernel
theorem d_Model_like_62 : decode b_Model_like 62 = .ok (.iaload, 1) := by decide +kernel
theorem d_Model_like_63 : decode b_Model_like 63 = .ok (.iload 4, 2) := by decide +kernel
theorem d_Model_like_65 : decode b_Model_like 65 = .ok (.iadd, 1) := by decide +kernel
theorem d_Model_like_66 : decode b_Model_like 66 = .ok (.iaload, 1) := by decide +kernel
theorem d_Model_like_67 : decode b_Model_like 67 = .ok (.if_icmp .ne 7, 3) := by decide +kernel
theorem d_Model_like_70 : decode b_Model_like 70 = .ok (.iconst 1, 1) := by decide +kernel
theorem d_Model_like_71 : decode b_Model_like 71 = .ok (.goto 4, 3) := by decide +kernel
theorem d_Model_like_74 : decode b_Model_like 74 = .ok (.iconst 0, 1) := by decide +kernel
theorem d_Model_like_75 : decode b_Model_like 75 = .ok (.istore_n 3, 1) := by decide +kernel
theorem d_Model_like_76 : decode b_Model_like 76 = .ok (.iinc 4 1, 3) := by decide +kernel
theorem d_Model_like_79 : decode b_Model_like 79 = .ok (.goto (-55), 3) := by decide +kernel
theorem d_Model_like_82 : decode b_Model_like 82 = .ok (.iload_n 3, 1) := by decide +kernel
theorem d_Model_like_83 : decode b_Model_like 83 = .ok (.ireturn, 1) := by decide +kernel
set_option maxHeartbeats 4000000 in
set_option maxRecDepth 100000 in
theorem lp_Model_like {p : Program} {l : Launch} {e : Env} {s : State} {m : MethodId} {args : Array Value} {below : List Frame} {meth : Method} {c : Code} {Q : State → Prop} {A : Nat → Prop} {dC : Nat → ClassId} {dI : Nat → Nat → Nat} {cB cI cL cZ cC cO : ClassId} {qm q_text q_tokAt q_tokSize : Nat}{f0 f2 f3 f4 f5 f6 f7 f10 f11 f12 f13 f14 f15 f16 f17 f18 f19 f20 f21 f22 f23 f24 f25 f26 f27 f28 f29 f30 f31 f32 f33 f34 f35 f36 f37 f38 f39 f40 f41 f42 f43 f44 f45 f46 f47 f48 f49 f50 f51 f52 f53 f54 f55 f56 f57 f58 f59 f60 f61 f62 f63 f64 f65 f66 f67 f68 f69 f70 : Value} {ft : Nat → Int32} {ta ts : Nat → Nat} {t t2 : Nat} {r : Bool} (ht : t < 1002) (ht2 : t2 < 1002) (h1 : ta t + ts t ≤ 2000) (h2 : ta t2 + ts t2 ≤ 2000) (hx : p.tables.exec = Jvm.exec) (hb : c.code = b_Model_like) (hml : c.maxLocals = 5) (hown : s.vm.findClass R_Model = some m.cls) (hts : ∀ w ∈ tb, w.before args s = true) (hA : ∀ q, s.heap.size ≤ q → A q) (hF : stF A s) (hK : va_K (dC, dI) cl [(cB, .byte), (cI, .int), (cL, .long), (cZ, .boolean), (cC, .char), (cO, .object "java/lang/Object")] s)
    (kx : ∀  (H : Heap) (locs : List Loc) (ls : Array Slot), va_P (dC, dI) cl [(qm, .inr (13, [f0, .ref q_text, f2, f3, f4, f5, f6, f7, .ref q_tokAt, .ref q_tokSize, f10, f11, f12, f13, f14, f15, f16, f17, f18, f19, f20, f21, f22, f23, f24, f25, f26, f27, f28, f29, f30, f31, f32, f33, f34, f35, f36, f37, f38, f39, f40, f41, f42, f43, f44, f45, f46, f47, f48, f49, f50, f51, f52, f53, f54, f55, f56, f57, f58, f59, f60, f61, f62, f63, f64, f65, f66, f67, f68, f69, f70])), (q_text, .inl (cI, 2000, .inl ft)), (q_tokAt, .inl (cI, 1002, .inl (nF ta))), (q_tokSize, .inl (cI, 1002, .inl (nF ts)))] H → va_D A [(qm, .inr (13, [f0, .ref q_text, f2, f3, f4, f5, f6, f7, .ref q_tokAt, .ref q_tokSize, f10, f11, f12, f13, f14, f15, f16, f17, f18, f19, f20, f21, f22, f23, f24, f25, f26, f27, f28, f29, f30, f31, f32, f33, f34, f35, f36, f37, f38, f39, f40, f41, f42, f43, f44, f45, f46, f47, f48, f49, f50, f51, f52, f53, f54, f55, f56, f57, f58, f59, f60, f61, f62, f63, f64, f65, f66, f67, f68, f69, f70])), (q_text, .inl (cI, 2000, .inl ft)), (q_tokAt, .inl (cI, 1002, .inl (nF ta))), (q_tokSize, .inl (cI, 1002, .inl (nF ts)))] → va_S A s.heap H locs → lv_has ls 5 [(3, .int (bI r)), (0, .ref qm), (1, .int (nI t)), (2, .int (nI t2))] → W p l e (headSpec w_Model_like { frames := 0, cells := 0, slots := 0, locals := 0 }).room s m args below meth c H locs 0 0 Q (F0 m 82 ls [])) :
    ∀ (k : Nat) (i : Nat) (x : Bool) (H : Heap) (locs : List Loc) (ls : Array Slot), ts t < i + k → i ≤ ts t → (x = true → ts t = ts t2) → m_same ft (ta t) (ta t2) (ts t - i) i x = r → va_P (dC, dI) cl [(qm, .inr (13, [f0, .ref q_text, f2, f3, f4, f5, f6, f7, .ref q_tokAt, .ref q_tokSize, f10, f11, f12, f13, f14, f15, f16, f17, f18, f19, f20, f21, f22, f23, f24, f25, f26, f27, f28, f29, f30, f31, f32, f33, f34, f35, f36, f37, f38, f39, f40, f41, f42, f43, f44, f45, f46, f47, f48, f49, f50, f51, f52, f53, f54, f55, f56, f57, f58, f59, f60, f61, f62, f63, f64, f65, f66, f67, f68, f69, f70])), (q_text, .inl (cI, 2000, .inl ft)), (q_tokAt, .inl (cI, 1002, .inl (nF ta))), (q_tokSize, .inl (cI, 1002, .inl (nF ts)))] H → va_D A [(qm, .inr (13, [f0, .ref q_text, f2, f3, f4, f5, f6, f7, .ref q_tokAt, .ref q_tokSize, f10, f11, f12, f13, f14, f15, f16, f17, f18, f19, f20, f21, f22, f23, f24, f25, f26, f27, f28, f29, f30, f31, f32, f33, f34, f35, f36, f37, f38, f39, f40, f41, f42, f43, f44, f45, f46, f47, f48, f49, f50, f51, f52, f53, f54, f55, f56, f57, f58, f59, f60, f61, f62, f63, f64, f65, f66, f67, f68, f69, f70])), (q_text, .inl (cI, 2000, .inl ft)), (q_tokAt, .inl (cI, 1002, .inl (nF ta))), (q_tokSize, .inl (cI, 1002, .inl (nF ts)))] → va_S A s.heap H locs → lv_has ls 5 [(4, .int (nI i)), (3, .int (bI x)), (0, .ref qm), (1, .int (nI t)), (2, .int (nI t2))] → W p l e (headSpec w_Model_like { frames := 0, cells := 0, slots := 0, locals := 0 }).room s m args below meth c H locs 0 0 Q (F0 m 24 ls []) := by
  intro k
  induction k with
  | zero =>
    intro i x H locs ls hk hi hx1 hr hP hD hS hl
    exfalso; omega
  | succ k ih =>
    intro i x H locs ls hk hi hx1 hr hP hD hS hl
    refine lv_iload hx hb d_Model_like_24 (lv_at hl 0 rfl) ?_
    refine lv_aload_n hx hb d_Model_like_26 rfl (lv_at hl 2 rfl) ?_
    refine va_get (D := (dC, dI)) (ci := 13) (v := .ref q_tokSize) (C := R_Model) (T := F_Model) (N := 71) hx hb hts i_Model hown hK hP 0 rfl rfl 9 (by decide) (hts _ k_883) (fun _ h9 => h9) rfl d_Model_like_27 ?_
    refine lv_iload_n hx hb d_Model_like_30 rfl (lv_at hl 3 rfl) ?_
    refine nv_iald hx hb hK hP 3 1 rfl rfl (by omega) (by decide) d_Model_like_31 ?_
    refine nv_icmp_ge (tgt := 82) hx hb (by omega) (by omega) d_Model_like_32 (by decide) (fun c_1 => ?_) (fun c_1 => ?_)
    · have hri : r = x := by first | (rw [← hr, m_same_u, if_neg (by omega)]) | (rw [← hr, m_same_u, if_pos (by omega), if_neg (by rw [c_1]; decide)])
      subst hri
      exact kx H locs ls hP hD hS (lv_sub hl [1, 2, 3, 4] rfl)
    · refine lv_iload_n hx hb d_Model_like_35 rfl (lv_at hl 1 rfl) ?_
      refine nv_bif_eq (tgt := 82) hx hb d_Model_like_36 (by decide) (fun c_2 => ?_) (fun c_2 => ?_)
      · have hri : r = x := by first | (rw [← hr, m_same_u, if_neg (by omega)]) | (rw [← hr, m_same_u, if_pos (by omega), if_neg (by rw [c_2]; decide)])
        subst hri
        exact kx H locs ls hP hD hS (lv_sub hl [1, 2, 3, 4] rfl)
      · have hz := hx1 c_2
        refine lv_aload_n hx hb d_Model_like_39 rfl (lv_at hl 2 rfl) ?_
        refine va_get (D := (dC, dI)) (ci := 13) (v := .ref q_text) (C := R_Model) (T := F_Model) (N := 71) hx hb hts i_Model hown hK hP 0 rfl rfl 1 (by decide) (hts _ k_875) (fun _ h9 => h9) rfl d_Model_like_40 ?_
        refine lv_aload_n hx hb d_Model_like_43 rfl (lv_at hl 2 rfl) ?_
        refine va_get (D := (dC, dI)) (ci := 13) (v := .ref q_tokAt) (C := R_Model) (T := F_Model) (N := 71) hx hb hts i_Model hown hK hP 0 rfl rfl 8 (by decide) (hts _ k_882) (fun _ h9 => h9) rfl d_Model_like_44 ?_
        refine lv_iload_n hx hb d_Model_like_47 rfl (lv_at hl 3 rfl) ?_
        refine nv_iald hx hb hK hP 2 1 rfl rfl (by omega) (by decide) d_Model_like_48 ?_
        refine lv_iload hx hb d_Model_like_49 (lv_at hl 0 rfl) ?_
        refine nv_iadd hx hb d_Model_like_51 ?_
        refine nv_iald hx hb hK hP 1 1 rfl rfl (by omega) (by decide) d_Model_like_52 ?_
        refine lv_aload_n hx hb d_Model_like_53 rfl (lv_at hl 2 rfl) ?_
        refine va_get (D := (dC, dI)) (ci := 13) (v := .ref q_text) (C := R_Model) (T := F_Model) (N := 71) hx hb hts i_Model hown hK hP 0 rfl rfl 1 (by decide) (hts _ k_875) (fun _ h9 => h9) rfl d_Model_like_54 ?_
        refine lv_aload_n hx hb d_Model_like_57 rfl (lv_at hl 2 rfl) ?_
        refine va_get (D := (dC, dI)) (ci := 13) (v := .ref q_tokAt) (C := R_Model) (T := F_Model) (N := 71) hx hb hts i_Model hown hK hP 0 rfl rfl 8 (by decide) (hts _ k_882) (fun _ h9 => h9) rfl d_Model_like_58 ?_
        refine lv_iload_n hx hb d_Model_like_61 rfl (lv_at hl 4 rfl) ?_
        refine nv_iald hx hb hK hP 2 1 rfl rfl (by omega) (by decide) d_Model_like_62 ?_
        refine lv_iload hx hb d_Model_like_63 (lv_at hl 0 rfl) ?_
        refine nv_iadd hx hb d_Model_like_65 ?_
        refine nv_iald hx hb hK hP 1 1 rfl rfl (by omega) (by decide) d_Model_like_66 ?_
        refine lv_icmp_ne (tgt := 74) hx hb d_Model_like_67 (by decide) (fun c_3 => ?_) (fun c_3 => ?_)
        · refine lv_iconst (v := nI 0) hx hb d_Model_like_74 (by decide) ?_
          refine lv_istore_n (lv' := [(3, .int (nI 0)), (4, .int (nI i)), (0, .ref qm), (1, .int (nI t)), (2, .int (nI t2))]) hx hb d_Model_like_75 rfl hl (by decide) rfl (fun ls hl => ?_)
          refine lv_iinc (v := nI (i + 1)) (lv' := [(4, .int (nI (i + 1))), (3, .int (nI 0)), (0, .ref qm), (1, .int (nI t)), (2, .int (nI t2))]) hx hb d_Model_like_76 hl (k := 1) rfl (nI_1 _) (by decide) rfl (fun ls hl => ?_)
          refine lv_goto (tgt := 24) hx hb d_Model_like_79 (by decide) ?_
          have hd : decide (ft (ta t + i) = ft (ta t2 + i)) = false := by simp [c_3]
          exact ih (i + 1) false H locs ls (by omega) (by omega) (fun _ => hx1 c_2) (by rw [← hr, m_same_u ft (ta t) (ta t2) (ts t) i, if_pos (by omega), if_pos c_2, hd]) hP hD hS (lv_sub hl [0, 1, 2, 3, 4] rfl)
        · refine lv_iconst (v := nI 1) hx hb d_Model_like_70 (by decide) ?_
          refine lv_goto (tgt := 75) hx hb d_Model_like_71 (by decide) ?_
          refine lv_istore_n (lv' := [(3, .int (nI 1)), (4, .int (nI i)), (0, .ref qm), (1, .int (nI t)), (2, .int (nI t2))]) hx hb d_Model_like_75 rfl hl (by decide) rfl (fun ls hl => ?_)
          refine lv_iinc (v := nI (i + 1)) (lv' := [(4, .int (nI (i + 1))), (3, .int (nI 1)), (0, .ref qm), (1, .int (nI t)), (2, .int (nI t2))]) hx hb d_Model_like_76 hl (k := 1) rfl (nI_1 _) (by decide) rfl (fun ls hl => ?_)
          refine lv_goto (tgt := 24) hx hb d_Model_like_79 (by decide) ?_
          have hd : decide (ft (ta t + i) = ft (ta t2 + i)) = true := by simp [c_3]
          exact ih (i + 1) true H locs ls (by omega) (by omega) (fun _ => hx1 c_2) (by rw [← hr, m_same_u ft (ta t) (ta t2) (ts t) i, if_pos (by omega), if_pos c_2, hd]) hP hD hS (lv_sub hl [0, 1, 2, 3, 4] rfl)
set_option maxHeartbeats 4000000 in
set_option maxRecDepth 100000 in
/-- like(t, t2) -/
theorem c_Model_like (l : Launch) (dC : Nat → ClassId) (dI : Nat → Nat → Nat) (cB cI cL cZ cC cO : ClassId) {qm q_text q_tokAt q_tokSize : Nat}{f0 f2 f3 f4 f5 f6 f7 f10 f11 f12 f13 f14 f15 f16 f17 f18 f19 f20 f21 f22 f23 f24 f25 f26 f27 f28 f29 f30 f31 f32 f33 f34 f35 f36 f37 f38 f39 f40 f41 f42 f43 f44 f45 f46 f47 f48 f49 f50 f51 f52 f53 f54 f55 f56 f57 f58 f59 f60 f61 f62 f63 f64 f65 f66 f67 f68 f69 f70 : Value} (ft : Nat → Int32) (ta ts : Nat → Nat) (t t2 : Nat) (sz : Nat) (ht : t < 1002) (ht2 : t2 < 1002) (h1 : ta t + ts t ≤ 2000) (h2 : ta t2 + ts t2 ≤ 2000) : Met l y_Model_like w_Model_like ({ frames := 0, cells := 0, slots := 0, locals := 0 }) (va_Pc [.ref qm, .int (nI t), .int (nI t2)] (wB (dC, dI) cl [(cB, .byte), (cI, .int), (cL, .long), (cZ, .boolean), (cC, .char), (cO, .object "java/lang/Object")] sz [(qm, .inr (13, [f0, .ref q_text, f2, f3, f4, f5, f6, f7, .ref q_tokAt, .ref q_tokSize, f10, f11, f12, f13, f14, f15, f16, f17, f18, f19, f20, f21, f22, f23, f24, f25, f26, f27, f28, f29, f30, f31, f32, f33, f34, f35, f36, f37, f38, f39, f40, f41, f42, f43, f44, f45, f46, f47, f48, f49, f50, f51, f52, f53, f54, f55, f56, f57, f58, f59, f60, f61, f62, f63, f64, f65, f66, f67, f68, f69, f70])), (q_text, .inl (cI, 2000, .inl ft)), (q_tokAt, .inl (cI, 1002, .inl (nF ta))), (q_tokSize, .inl (cI, 1002, .inl (nF ts)))])) (va_Qi (fun (r : Int32) (u : Unit) => r = bI (m_like ft ta ts t t2)) (fun _ t => wA (dC, dI) cl [(cB, .byte), (cI, .int), (cL, .long), (cZ, .boolean), (cC, .char), (cO, .object "java/lang/Object")] (va_A [(qm, .inr (13, [f0, .ref q_text, f2, f3, f4, f5, f6, f7, .ref q_tokAt, .ref q_tokSize, f10, f11, f12, f13, f14, f15, f16, f17, f18, f19, f20, f21, f22, f23, f24, f25, f26, f27, f28, f29, f30, f31, f32, f33, f34, f35, f36, f37, f38, f39, f40, f41, f42, f43, f44, f45, f46, f47, f48, f49, f50, f51, f52, f53, f54, f55, f56, f57, f58, f59, f60, f61, f62, f63, f64, f65, f66, f67, f68, f69, f70])), (q_text, .inl (cI, 2000, .inl ft)), (q_tokAt, .inl (cI, 1002, .inl (nF ta))), (q_tokSize, .inl (cI, 1002, .inl (nF ts)))] sz) [(qm, .inr (13, [f0, .ref q_text, f2, f3, f4, f5, f6, f7, .ref q_tokAt, .ref q_tokSize, f10, f11, f12, f13, f14, f15, f16, f17, f18, f19, f20, f21, f22, f23, f24, f25, f26, f27, f28, f29, f30, f31, f32, f33, f34, f35, f36, f37, f38, f39, f40, f41, f42, f43, f44, f45, f46, f47, f48, f49, f50, f51, f52, f53, f54, f55, f56, f57, f58, f59, f60, f61, f62, f63, f64, f65, f66, f67, f68, f69, f70])), (q_text, .inl (cI, 2000, .inl ft)), (q_tokAt, .inl (cI, 1002, .inl (nF ta))), (q_tokSize, .inl (cI, 1002, .inl (nF ts)))] t) (va_A [(qm, .inr (13, [f0, .ref q_text, f2, f3, f4, f5, f6, f7, .ref q_tokAt, .ref q_tokSize, f10, f11, f12, f13, f14, f15, f16, f17, f18, f19, f20, f21, f22, f23, f24, f25, f26, f27, f28, f29, f30, f31, f32, f33, f34, f35, f36, f37, f38, f39, f40, f41, f42, f43, f44, f45, f46, f47, f48, f49, f50, f51, f52, f53, f54, f55, f56, f57, f58, f59, f60, f61, f62, f63, f64, f65, f66, f67, f68, f69, f70])), (q_text, .inl (cI, 2000, .inl ft)), (q_tokAt, .inl (cI, 1002, .inl (nF ta))), (q_tokSize, .inl (cI, 1002, .inl (nF ts)))] sz)) 0 0 (va_A [(qm, .inr (13, [f0, .ref q_text, f2, f3, f4, f5, f6, f7, .ref q_tokAt, .ref q_tokSize, f10, f11, f12, f13, f14, f15, f16, f17, f18, f19, f20, f21, f22, f23, f24, f25, f26, f27, f28, f29, f30, f31, f32, f33, f34, f35, f36, f37, f38, f39, f40, f41, f42, f43, f44, f45, f46, f47, f48, f49, f50, f51, f52, f53, f54, f55, f56, f57, f58, f59, f60, f61, f62, f63, f64, f65, f66, f67, f68, f69, f70])), (q_text, .inl (cI, 2000, .inl ft)), (q_tokAt, .inl (cI, 1002, .inl (nF ta))), (q_tokSize, .inl (cI, 1002, .inl (nF ts)))] sz) := by
  refine Met.ofW (cc := b_Model_like) (maxL := 5) (ret := (some ClassFile.FieldType.boolean)) (by decide) rfl ?_
  intro p e s m args below meth c s₁ B hml hv
  obtain ⟨rfl, hsz, hP, hK, hD0, hF⟩ := hv
  have hx := B.exec
  have hb := B.bytes
  have hr := B.returns
  have hts := atoms_spec (ws := w_Model_like) B.pre
  have hts : ∀ w ∈ tb, w.before _ s = true := fun w h => hts w (List.mem_cons_of_mem _ h)
  have hown : s.vm.findClass R_Model = some m.cls := findClass_of_methodNamed B.named
  have hlocks := B.notSynchronized
  subst hsz
  have hD := hD0.self (sz := s.heap.size)
  generalize hAe : va_A [(qm, .inr (13, [f0, .ref q_text, f2, f3, f4, f5, f6, f7, .ref q_tokAt, .ref q_tokSize, f10, f11, f12, f13, f14, f15, f16, f17, f18, f19, f20, f21, f22, f23, f24, f25, f26, f27, f28, f29, f30, f31, f32, f33, f34, f35, f36, f37, f38, f39, f40, f41, f42, f43, f44, f45, f46, f47, f48, f49, f50, f51, f52, f53, f54, f55, f56, f57, f58, f59, f60, f61, f62, f63, f64, f65, f66, f67, f68, f69, f70])), (q_text, .inl (cI, 2000, .inl ft)), (q_tokAt, .inl (cI, 1002, .inl (nF ta))), (q_tokSize, .inl (cI, 1002, .inl (nF ts)))] s.heap.size = A at hD hF ⊢
  have hA : ∀ q : Nat, s.heap.size ≤ q → A q := fun q h => by rw [← hAe]; exact Or.inr h
  have hS : va_S A s.heap s.heap [] := va_S.rf
  have hP : va_P (dC, dI) cl [(qm, .inr (13, [f0, .ref q_text, f2, f3, f4, f5, f6, f7, .ref q_tokAt, .ref q_tokSize, f10, f11, f12, f13, f14, f15, f16, f17, f18, f19, f20, f21, f22, f23, f24, f25, f26, f27, f28, f29, f30, f31, f32, f33, f34, f35, f36, f37, f38, f39, f40, f41, f42, f43, f44, f45, f46, f47, f48, f49, f50, f51, f52, f53, f54, f55, f56, f57, f58, f59, f60, f61, f62, f63, f64, f65, f66, f67, f68, f69, f70])), (q_text, .inl (cI, 2000, .inl ft)), (q_tokAt, .inl (cI, 1002, .inl (nF ta))), (q_tokSize, .inl (cI, 1002, .inl (nF ts)))] s.heap := hP
  have hl := lv_entry ([.ref qm, .int (nI t), .int (nI t2)]) (n := 5) (Nat.le_of_ble_eq_true rfl)
  rw [lg_entry_eq]
  generalize (lg_sl ([.ref qm, .int (nI t), .int (nI t2)]) ++ List.replicate (5 - (lg_sl ([.ref qm, .int (nI t), .int (nI t2)])).length) Slot.unset).toArray = ls at hl ⊢
  have hl : lv_has ls 5 [(0, .ref qm), (1, .int (nI t)), (2, .int (nI t2))] := hl
  have hz1 : ts t < 2 ^ 31 := by omega
  have hz2 : ts t2 < 2 ^ 31 := by omega
  refine lv_aload_n hx hb d_Model_like_0 rfl (lv_at hl 0 rfl) ?_
  refine va_get (D := (dC, dI)) (ci := 13) (v := .ref q_tokSize) (C := R_Model) (T := F_Model) (N := 71) hx hb hts i_Model hown hK hP 0 rfl rfl 9 (by decide) (hts _ k_883) (fun _ h9 => h9) rfl d_Model_like_1 ?_
  refine lv_iload_n hx hb d_Model_like_4 rfl (lv_at hl 1 rfl) ?_
  refine nv_iald hx hb hK hP 3 1 rfl rfl (by omega) (by decide) d_Model_like_5 ?_
  refine lv_aload_n hx hb d_Model_like_6 rfl (lv_at hl 0 rfl) ?_
  refine va_get (D := (dC, dI)) (ci := 13) (v := .ref q_tokSize) (C := R_Model) (T := F_Model) (N := 71) hx hb hts i_Model hown hK hP 0 rfl rfl 9 (by decide) (hts _ k_883) (fun _ h9 => h9) rfl d_Model_like_7 ?_
  refine lv_iload_n hx hb d_Model_like_10 rfl (lv_at hl 2 rfl) ?_
  refine nv_iald hx hb hK hP 3 1 rfl rfl (by omega) (by decide) d_Model_like_11 ?_
  refine nv_icmp_ne (tgt := 19) hx hb (by omega) (by omega) d_Model_like_12 (by decide) (fun c_1 => ?_) (fun c_1 => ?_)
  · refine lv_iconst (v := nI 0) hx hb d_Model_like_19 (by decide) ?_
    refine lv_istore_n (lv' := [(3, .int (nI 0)), (0, .ref qm), (1, .int (nI t)), (2, .int (nI t2))]) hx hb d_Model_like_20 rfl hl (by decide) rfl (fun ls hl => ?_)
    refine lv_iconst (v := nI 0) hx hb d_Model_like_21 (by decide) ?_
    refine lv_istore (lv' := [(4, .int (nI 0)), (3, .int (nI 0)), (0, .ref qm), (1, .int (nI t)), (2, .int (nI t2))]) hx hb d_Model_like_22 hl (by decide) rfl (fun ls hl => ?_)
    have hd : decide (ts t = ts t2) = false := by simp [c_1]
    refine lp_Model_like (r := m_like ft ta ts t t2) ht ht2 h1 h2 hx hb hml hown hts hA hF hK (fun H locs ls hP hD hS hl => ?_) (ts t + 1) 0 false _ _ ls (by omega) (by omega) (fun q => by simpa [q] using hd) (by unfold m_like; rw [hd]; rfl) hP hD hS (lv_sub hl [0, 1, 2, 3, 4] rfl)
    clear hd
    refine lv_iload_n hx hb d_Model_like_82 rfl (lv_at hl 0 rfl) ?_
    exact wr_z (x := m_like ft ta ts t t2) hx hb hr hlocks () rfl hK hP hD hS d_Model_like_83
  · refine lv_iconst (v := nI 1) hx hb d_Model_like_15 (by decide) ?_
    refine lv_goto (tgt := 20) hx hb d_Model_like_16 (by decide) ?_
    refine lv_istore_n (lv' := [(3, .int (nI 1)), (0, .ref qm), (1, .int (nI t)), (2, .int (nI t2))]) hx hb d_Model_like_20 rfl hl (by decide) rfl (fun ls hl => ?_)
    refine lv_iconst (v := nI 0) hx hb d_Model_like_21 (by decide) ?_
    refine lv_istore (lv' := [(4, .int (nI 0)), (3, .int (nI 1)), (0, .ref qm), (1, .int (nI t)), (2, .int (nI t2))]) hx hb d_Model_like_22 hl (by decide) rfl (fun ls hl => ?_)
    have hd : decide (ts t = ts t2) = true := by simp [c_1]
    refine lp_Model_like (r := m_like ft ta ts t t2) ht ht2 h1 h2 hx hb hml hown hts hA hF hK (fun H locs ls hP hD hS hl => ?_) (ts t + 1) 0 true _ _ ls (by omega) (by omega) (fun q => by simpa [q] using hd) (by unfold m_like; rw [hd]; rfl) hP hD hS (lv_sub hl [0, 1, 2, 3, 4] rfl)
    clear hd
    refine lv_iload_n hx hb d_Model_like_82 rfl (lv_at hl 0 rfl) ?_
    exact wr_z (x := m_like ft ta ts t t2) hx hb hr hlocks () rfl hK hP hD hS d_Model_like_83
