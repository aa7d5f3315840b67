theorem m_at_in {ft : Nat → Int32} {n k ch : Nat} (h : m_at ft n k = nI ch) (hc : ch < 2 ^ 31) : k < n := by
  by_cases q : k < n
  · exact q
  · unfold m_at at h
    rw [if_neg q] at h
    exact absurd (show nI ch < 0 by rw [← h]; decide) (nI_pos hc)
def m_com (ft : Nat → Int32) (n : Nat) : Nat → Nat → Nat
  | 0, i => i
  | k + 1, i => if ft i = nI 42 ∧ m_at ft n (i + 1) = nI 47 then i else m_com ft n k (i + 1)
theorem m_com_u (ft : Nat → Int32) (n i : Nat) : m_com ft n (n - i) i = if i < n then (if ft i = nI 42 ∧ m_at ft n (i + 1) = nI 47 then i else m_com ft n (n - (i + 1)) (i + 1)) else i := by
  by_cases h : i < n
  · rw [if_pos h, show n - i = (n - (i + 1)) + 1 by omega]; rfl
  · rw [if_neg h, show n - i = 0 by omega]; rfl
theorem m_com_le (ft : Nat → Int32) (n : Nat) : ∀ k i, m_com ft n k i ≤ i + k
  | 0, i => Nat.le_refl i
  | k + 1, i => by
    show (if ft i = nI 42 ∧ m_at ft n (i + 1) = nI 47 then i else m_com ft n k (i + 1)) ≤ i + (k + 1)
    split
    · omega
    · have := m_com_le ft n k (i + 1); omega
theorem m_com_ge (ft : Nat → Int32) (n : Nat) : ∀ k i, i ≤ m_com ft n k i
  | 0, i => Nat.le_refl i
  | k + 1, i => by
    show i ≤ (if ft i = nI 42 ∧ m_at ft n (i + 1) = nI 47 then i else m_com ft n k (i + 1))
    split
    · omega
    · have := m_com_ge ft n k (i + 1); omega
theorem tx_line_ge (b : Nat → Int32) : ∀ k i, i ≤ tx_line b k i
  | 0, i => Nat.le_refl i
  | k + 1, i => by
    show i ≤ (if b i = nI 10 then i else tx_line b k (i + 1))
    split
    · omega
    · have := tx_line_ge b k (i + 1); omega
def m_skip (ft : Nat → Int32) (n : Nat) : Nat → Nat → Int32
  | 0, i => nI i
  | k + 1, i => if i < n then (if tx_blank (ft i) = true then m_skip ft n k (i + 1) else if ft i = nI 47 ∧ m_at ft n (i + 1) = nI 47 then m_skip ft n k (tx_line ft (n - i) i) else if ft i = nI 47 ∧ m_at ft n (i + 1) = nI 42 then (if n ≤ m_com ft n (n - (i + 2)) (i + 2) then (-2) - nI i else m_skip ft n k (m_com ft n (n - (i + 2)) (i + 2) + 2)) else nI i) else nI i
theorem m_skip_s (ft : Nat → Int32) (n k i : Nat) : m_skip ft n (k + 1) i = if i < n then (if tx_blank (ft i) = true then m_skip ft n k (i + 1) else if ft i = nI 47 ∧ m_at ft n (i + 1) = nI 47 then m_skip ft n k (tx_line ft (n - i) i) else if ft i = nI 47 ∧ m_at ft n (i + 1) = nI 42 then (if n ≤ m_com ft n (n - (i + 2)) (i + 2) then (-2) - nI i else m_skip ft n k (m_com ft n (n - (i + 2)) (i + 2) + 2)) else nI i) else nI i := rfl
theorem m_skip_e {ft : Nat → Int32} {n k i : Nat} (h : ¬ i < n) : m_skip ft n k i = nI i := by
  cases k with
  | zero => rfl
  | succ k => rw [m_skip_s, if_neg h]
theorem d_Model_skip_0 : decode b_Model_skip 0 = .ok (.iload_n 1, 1) := by decide +kernel
theorem d_Model_skip_1 : decode b_Model_skip 1 = .ok (.istore_n 2, 1) := by decide +kernel
theorem d_Model_skip_2 : decode b_Model_skip 2 = .ok (.iload_n 2, 1) := by decide +kernel
theorem d_Model_skip_3 : decode b_Model_skip 3 = .ok (.aload_n 0, 1) := by decide +kernel
theorem d_Model_skip_4 : decode b_Model_skip 4 = .ok (.getfield 161, 3) := by decide +kernel
theorem d_Model_skip_7 : decode b_Model_skip 7 = .ok (.if_icmp .ge 178, 3) := by decide +kernel
theorem d_Model_skip_10 : decode b_Model_skip 10 = .ok (.aload_n 0, 1) := by decide +kernel
theorem d_Model_skip_11 : decode b_Model_skip 11 = .ok (.getfield 13, 3) := by decide +kernel
theorem d_Model_skip_14 : decode b_Model_skip 14 = .ok (.iload_n 2, 1) := by decide +kernel
theorem d_Model_skip_15 : decode b_Model_skip 15 = .ok (.iaload, 1) := by decide +kernel
theorem d_Model_skip_16 : decode b_Model_skip 16 = .ok (.istore_n 3, 1) := by decide +kernel
theorem d_Model_skip_17 : decode b_Model_skip 17 = .ok (.iload_n 3, 1) := by decide +kernel
theorem d_Model_skip_18 : decode b_Model_skip 18 = .ok (.bipush 9, 2) := by decide +kernel
theorem d_Model_skip_20 : decode b_Model_skip 20 = .ok (.if_icmp .eq 21, 3) := by decide +kernel
theorem d_Model_skip_23 : decode b_Model_skip 23 = .ok (.iload_n 3, 1) := by decide +kernel
theorem d_Model_skip_24 : decode b_Model_skip 24 = .ok (.bipush 10, 2) := by decide +kernel
theorem d_Model_skip_26 : decode b_Model_skip 26 = .ok (.if_icmp .eq 15, 3) := by decide +kernel
theorem d_Model_skip_29 : decode b_Model_skip 29 = .ok (.iload_n 3, 1) := by decide +kernel
theorem d_Model_skip_30 : decode b_Model_skip 30 = .ok (.bipush 13, 2) := by decide +kernel
theorem d_Model_skip_32 : decode b_Model_skip 32 = .ok (.if_icmp .eq 9, 3) := by decide +kernel
theorem d_Model_skip_35 : decode b_Model_skip 35 = .ok (.iload_n 3, 1) := by decide +kernel
theorem d_Model_skip_36 : decode b_Model_skip 36 = .ok (.bipush 32, 2) := by decide +kernel
theorem d_Model_skip_38 : decode b_Model_skip 38 = .ok (.if_icmp .ne 10, 3) := by decide +kernel
theorem d_Model_skip_41 : decode b_Model_skip 41 = .ok (.iload_n 2, 1) := by decide +kernel
theorem d_Model_skip_42 : decode b_Model_skip 42 = .ok (.iconst 1, 1) := by decide +kernel
theorem d_Model_skip_43 : decode b_Model_skip 43 = .ok (.iadd, 1) := by decide +kernel
theorem d_Model_skip_44 : decode b_Model_skip 44 = .ok (.istore_n 2, 1) := by decide +kernel
theorem d_Model_skip_45 : decode b_Model_skip 45 = .ok (.goto 137, 3) := by decide +kernel
theorem d_Model_skip_48 : decode b_Model_skip 48 = .ok (.iload_n 3, 1) := by decide +kernel
theorem d_Model_skip_49 : decode b_Model_skip 49 = .ok (.bipush 47, 2) := by decide +kernel
theorem d_Model_skip_51 : decode b_Model_skip 51 = .ok (.if_icmp .ne 41, 3) := by decide +kernel
theorem d_Model_skip_54 : decode b_Model_skip 54 = .ok (.aload_n 0, 1) := by decide +kernel
theorem d_Model_skip_55 : decode b_Model_skip 55 = .ok (.iload_n 2, 1) := by decide +kernel
theorem d_Model_skip_56 : decode b_Model_skip 56 = .ok (.iconst 1, 1) := by decide +kernel
theorem d_Model_skip_57 : decode b_Model_skip 57 = .ok (.iadd, 1) := by decide +kernel
theorem d_Model_skip_58 : decode b_Model_skip 58 = .ok (.invokevirtual 174, 3) := by decide +kernel
theorem d_Model_skip_61 : decode b_Model_skip 61 = .ok (.bipush 47, 2) := by decide +kernel
theorem d_Model_skip_63 : decode b_Model_skip 63 = .ok (.if_icmp .ne 29, 3) := by decide +kernel
theorem d_Model_skip_66 : decode b_Model_skip 66 = .ok (.iload_n 2, 1) := by decide +kernel
theorem d_Model_skip_67 : decode b_Model_skip 67 = .ok (.aload_n 0, 1) := by decide +kernel
theorem d_Model_skip_68 : decode b_Model_skip 68 = .ok (.getfield 161, 3) := by decide +kernel
theorem d_Model_skip_71 : decode b_Model_skip 71 = .ok (.if_icmp .ge 111, 3) := by decide +kernel
theorem d_Model_skip_74 : decode b_Model_skip 74 = .ok (.aload_n 0, 1) := by decide +kernel
theorem d_Model_skip_75 : decode b_Model_skip 75 = .ok (.getfield 13, 3) := by decide +kernel
theorem d_Model_skip_78 : decode b_Model_skip 78 = .ok (.iload_n 2, 1) := by decide +kernel
theorem d_Model_skip_79 : decode b_Model_skip 79 = .ok (.iaload, 1) := by decide +kernel
theorem d_Model_skip_80 : decode b_Model_skip 80 = .ok (.bipush 10, 2) := by decide +kernel
theorem d_Model_skip_82 : decode b_Model_skip 82 = .ok (.if_icmp .eq 100, 3) := by decide +kernel
theorem d_Model_skip_85 : decode b_Model_skip 85 = .ok (.iload_n 2, 1) := by decide +kernel
theorem d_Model_skip_86 : decode b_Model_skip 86 = .ok (.iconst 1, 1) := by decide +kernel
theorem d_Model_skip_87 : decode b_Model_skip 87 = .ok (.iadd, 1) := by decide +kernel
theorem d_Model_skip_88 : decode b_Model_skip 88 = .ok (.istore_n 2, 1) := by decide +kernel
theorem d_Model_skip_89 : decode b_Model_skip 89 = .ok (.goto (-23), 3) := by decide +kernel
theorem d_Model_skip_92 : decode b_Model_skip 92 = .ok (.iload_n 3, 1) := by decide +kernel
theorem d_Model_skip_93 : decode b_Model_skip 93 = .ok (.bipush 47, 2) := by decide +kernel
theorem d_Model_skip_95 : decode b_Model_skip 95 = .ok (.if_icmp .ne 85, 3) := by decide +kernel
theorem d_Model_skip_98 : decode b_Model_skip 98 = .ok (.aload_n 0, 1) := by decide +kernel
theorem d_Model_skip_99 : decode b_Model_skip 99 = .ok (.iload_n 2, 1) := by decide +kernel
theorem d_Model_skip_100 : decode b_Model_skip 100 = .ok (.iconst 1, 1) := by decide +kernel
theorem d_Model_skip_101 : decode b_Model_skip 101 = .ok (.iadd, 1) := by decide +kernel
theorem d_Model_skip_102 : decode b_Model_skip 102 = .ok (.invokevirtual 174, 3) := by decide +kernel
theorem d_Model_skip_105 : decode b_Model_skip 105 = .ok (.bipush 42, 2) := by decide +kernel
theorem d_Model_skip_107 : decode b_Model_skip 107 = .ok (.if_icmp .ne 73, 3) := by decide +kernel
theorem d_Model_skip_110 : decode b_Model_skip 110 = .ok (.iload_n 2, 1) := by decide +kernel
theorem d_Model_skip_111 : decode b_Model_skip 111 = .ok (.iconst 2, 1) := by decide +kernel
theorem d_Model_skip_112 : decode b_Model_skip 112 = .ok (.iadd, 1) := by decide +kernel
theorem d_Model_skip_113 : decode b_Model_skip 113 = .ok (.istore 4, 2) := by decide +kernel
theorem d_Model_skip_115 : decode b_Model_skip 115 = .ok (.iload 4, 2) := by decide +kernel
theorem d_Model_skip_117 : decode b_Model_skip 117 = .ok (.aload_n 0, 1) := by decide +kernel
theorem d_Model_skip_118 : decode b_Model_skip 118 = .ok (.getfield 161, 3) := by decide +kernel
theorem d_Model_skip_121 : decode b_Model_skip 121 = .ok (.if_icmp .ge 37, 3) := by decide +kernel
theorem d_Model_skip_124 : decode b_Model_skip 124 = .ok (.aload_n 0, 1) := by decide +kernel
theorem d_Model_skip_125 : decode b_Model_skip 125 = .ok (.getfield 13, 3) := by decide +kernel
theorem d_Model_skip_128 : decode b_Model_skip 128 = .ok (.iload 4, 2) := by decide +kernel
theorem d_Model_skip_130 : decode b_Model_skip 130 = .ok (.iaload, 1) := by decide +kernel
theorem d_Model_skip_131 : decode b_Model_skip 131 = .ok (.bipush 42, 2) := by decide +kernel
theorem d_Model_skip_133 : decode b_Model_skip 133 = .ok (.if_icmp .ne 16, 3) := by decide +kernel
theorem d_Model_skip_136 : decode b_Model_skip 136 = .ok (.aload_n 0, 1) := by decide +kernel
theorem d_Model_skip_137 : decode b_Model_skip 137 = .ok (.iload 4, 2) := by decide +kernel
theorem d_Model_skip_139 : decode b_Model_skip 139 = .ok (.iconst 1, 1) := by decide +kernel
theorem d_Model_skip_140 : decode b_Model_skip 140 = .ok (.iadd, 1) := by decide +kernel
theorem d_Model_skip_141 : decode b_Model_skip 141 = .ok (.invokevirtual 174, 3) := by decide +kernel
theorem d_Model_skip_144 : decode b_Model_skip 144 = .ok (.bipush 47, 2) := by decide +kernel
theorem d_Model_skip_146 : decode b_Model_skip 146 = .ok (.if_icmp .eq 12, 3) := by decide +kernel
theorem d_Model_skip_149 : decode b_Model_skip 149 = .ok (.iload 4, 2) := by decide +kernel
theorem d_Model_skip_151 : decode b_Model_skip 151 = .ok (.iconst 1, 1) := by decide +kernel
theorem d_Model_skip_152 : decode b_Model_skip 152 = .ok (.iadd, 1) := by decide +kernel
theorem d_Model_skip_153 : decode b_Model_skip 153 = .ok (.istore 4, 2) := by decide +kernel
theorem d_Model_skip_155 : decode b_Model_skip 155 = .ok (.goto (-40), 3) := by decide +kernel
theorem d_Model_skip_158 : decode b_Model_skip 158 = .ok (.iload 4, 2) := by decide +kernel
theorem d_Model_skip_160 : decode b_Model_skip 160 = .ok (.aload_n 0, 1) := by decide +kernel
theorem d_Model_skip_161 : decode b_Model_skip 161 = .ok (.getfield 161, 3) := by decide +kernel
theorem d_Model_skip_164 : decode b_Model_skip 164 = .ok (.if_icmp .lt 8, 3) := by decide +kernel
theorem d_Model_skip_167 : decode b_Model_skip 167 = .ok (.bipush (-2), 2) := by decide +kernel
theorem d_Model_skip_169 : decode b_Model_skip 169 = .ok (.iload_n 2, 1) := by decide +kernel
theorem d_Model_skip_170 : decode b_Model_skip 170 = .ok (.isub, 1) := by decide +kernel
theorem d_Model_skip_171 : decode b_Model_skip 171 = .ok (.ireturn, 1) := by decide +kernel
theorem d_Model_skip_172 : decode b_Model_skip 172 = .ok (.iload 4, 2) := by decide +kernel
theorem d_Model_skip_174 : decode b_Model_skip 174 = .ok (.iconst 2, 1) := by decide +kernel
theorem d_Model_skip_175 : decode b_Model_skip 175 = .ok (.iadd, 1) := by decide +kernel
theorem d_Model_skip_176 : decode b_Model_skip 176 = .ok (.istore_n 2, 1) := by decide +kernel
theorem d_Model_skip_177 : decode b_Model_skip 177 = .ok (.goto 5, 3) := by decide +kernel
theorem d_Model_skip_180 : decode b_Model_skip 180 = .ok (.iload_n 2, 1) := by decide +kernel
theorem d_Model_skip_181 : decode b_Model_skip 181 = .ok (.ireturn, 1) := by decide +kernel
theorem d_Model_skip_182 : decode b_Model_skip 182 = .ok (.goto (-180), 3) := by decide +kernel
theorem d_Model_skip_185 : decode b_Model_skip 185 = .ok (.iload_n 2, 1) := by decide +kernel
theorem d_Model_skip_186 : decode b_Model_skip 186 = .ok (.ireturn, 1) := by decide +kernel
set_option maxHeartbeats 4000000 in
set_option maxRecDepth 100000 in
theorem lp_Model_skip_line {p : Program} {l : Launch} {e : Env} {s : State} {m : MethodId} {args : Array Value} {below : List Frame} {meth : Method} {c : Code} {Q : State → Prop} {A : Nat → Prop} {dC : Nat → ClassId} {dI : Nat → Nat → Nat} {cB cI cL cZ cC cO : ClassId} {qm q_text : Nat}{f0 f2 f4 f5 f6 f7 f8 f9 f10 f11 f12 f13 f14 f15 f16 f17 f18 f19 f20 f21 f22 f23 f24 f25 f26 f27 f28 f29 f30 f31 f32 f33 f34 f35 f36 f37 f38 f39 f40 f41 f42 f43 f44 f45 f46 f47 f48 f49 f50 f51 f52 f53 f54 f55 f56 f57 f58 f59 f60 f61 f62 f63 f64 f65 f66 f67 f68 f69 f70 : Value} {ft : Nat → Int32} {n : Nat} {i0 r : Nat} (hn : n ≤ 2000) (hx : p.tables.exec = Jvm.exec) (hb : c.code = b_Model_skip) (hml : c.maxLocals = 5) (hown : s.vm.findClass R_Model = some m.cls) (hts : ∀ w ∈ tb, w.before args s = true) (hA : ∀ q, s.heap.size ≤ q → A q) (hF : stF A s) (hK : va_K (dC, dI) cl [(cB, .byte), (cI, .int), (cL, .long), (cZ, .boolean), (cC, .char), (cO, .object "java/lang/Object")] s)
    (kx : ∀  (H : Heap) (locs : List Loc) (ls : Array Slot), va_P (dC, dI) cl [(qm, .inr (13, [f0, .ref q_text, f2, .int (nI n), f4, f5, f6, f7, f8, f9, f10, f11, f12, f13, f14, f15, f16, f17, f18, f19, f20, f21, f22, f23, f24, f25, f26, f27, f28, f29, f30, f31, f32, f33, f34, f35, f36, f37, f38, f39, f40, f41, f42, f43, f44, f45, f46, f47, f48, f49, f50, f51, f52, f53, f54, f55, f56, f57, f58, f59, f60, f61, f62, f63, f64, f65, f66, f67, f68, f69, f70])), (q_text, .inl (cI, 2000, .inl ft))] H → va_D A [(qm, .inr (13, [f0, .ref q_text, f2, .int (nI n), f4, f5, f6, f7, f8, f9, f10, f11, f12, f13, f14, f15, f16, f17, f18, f19, f20, f21, f22, f23, f24, f25, f26, f27, f28, f29, f30, f31, f32, f33, f34, f35, f36, f37, f38, f39, f40, f41, f42, f43, f44, f45, f46, f47, f48, f49, f50, f51, f52, f53, f54, f55, f56, f57, f58, f59, f60, f61, f62, f63, f64, f65, f66, f67, f68, f69, f70])), (q_text, .inl (cI, 2000, .inl ft))] → va_S A s.heap H locs → lv_has ls 5 [(2, .int (nI r)), (0, .ref qm), (1, .int (nI i0))] → W p l e (headSpec w_Model_skip { frames := 1, cells := 0, slots := 0, locals := 30 }).room s m args below meth c H locs 0 0 Q (F0 m 182 ls [])) :
    ∀ (k : Nat) (x : Nat) (H : Heap) (locs : List Loc) (ls : Array Slot), n < x + k → x ≤ n → tx_line ft (n - x) x = r → va_P (dC, dI) cl [(qm, .inr (13, [f0, .ref q_text, f2, .int (nI n), f4, f5, f6, f7, f8, f9, f10, f11, f12, f13, f14, f15, f16, f17, f18, f19, f20, f21, f22, f23, f24, f25, f26, f27, f28, f29, f30, f31, f32, f33, f34, f35, f36, f37, f38, f39, f40, f41, f42, f43, f44, f45, f46, f47, f48, f49, f50, f51, f52, f53, f54, f55, f56, f57, f58, f59, f60, f61, f62, f63, f64, f65, f66, f67, f68, f69, f70])), (q_text, .inl (cI, 2000, .inl ft))] H → va_D A [(qm, .inr (13, [f0, .ref q_text, f2, .int (nI n), f4, f5, f6, f7, f8, f9, f10, f11, f12, f13, f14, f15, f16, f17, f18, f19, f20, f21, f22, f23, f24, f25, f26, f27, f28, f29, f30, f31, f32, f33, f34, f35, f36, f37, f38, f39, f40, f41, f42, f43, f44, f45, f46, f47, f48, f49, f50, f51, f52, f53, f54, f55, f56, f57, f58, f59, f60, f61, f62, f63, f64, f65, f66, f67, f68, f69, f70])), (q_text, .inl (cI, 2000, .inl ft))] → va_S A s.heap H locs → lv_has ls 5 [(2, .int (nI x)), (0, .ref qm), (1, .int (nI i0))] → W p l e (headSpec w_Model_skip { frames := 1, cells := 0, slots := 0, locals := 30 }).room s m args below meth c H locs 0 0 Q (F0 m 66 ls []) := by
  intro k
  induction k with
  | zero =>
    intro x H locs ls hk hi hr hP hD hS hl
    exfalso; omega
  | succ k ih =>
    intro x H locs ls hk hi hr hP hD hS hl
    refine lv_iload_n hx hb d_Model_skip_66 rfl (lv_at hl 0 rfl) ?_
    refine lv_aload_n hx hb d_Model_skip_67 rfl (lv_at hl 1 rfl) ?_
    refine va_get (D := (dC, dI)) (ci := 13) (v := .int (nI n)) (C := R_Model) (T := F_Model) (N := 71) hx hb hts i_Model hown hK hP 0 rfl rfl 3 (by decide) (hts _ k_877) (fun _ h9 => h9) rfl d_Model_skip_68 ?_
    refine nv_icmp_ge (tgt := 182) hx hb (by omega) (by omega) d_Model_skip_71 (by decide) (fun c_1 => ?_) (fun c_1 => ?_)
    · have hri : r = x := by first | (rw [← hr, tx_line_u, if_neg (by omega)]) | (rw [← hr, tx_line_u, if_pos (by omega), if_pos c_1])
      subst hri
      exact kx H locs ls hP hD hS (lv_sub hl [0, 1, 2] rfl)
    · refine lv_aload_n hx hb d_Model_skip_74 rfl (lv_at hl 1 rfl) ?_
      refine va_get (D := (dC, dI)) (ci := 13) (v := .ref q_text) (C := R_Model) (T := F_Model) (N := 71) hx hb hts i_Model hown hK hP 0 rfl rfl 1 (by decide) (hts _ k_875) (fun _ h9 => h9) rfl d_Model_skip_75 ?_
      refine lv_iload_n hx hb d_Model_skip_78 rfl (lv_at hl 0 rfl) ?_
      refine nv_iald hx hb hK hP 1 1 rfl rfl (by omega) (by decide) d_Model_skip_79 ?_
      refine lv_bipush (v := nI 10) hx hb d_Model_skip_80 (by decide) ?_
      refine lv_icmp_eq (tgt := 182) hx hb d_Model_skip_82 (by decide) (fun c_2 => ?_) (fun c_2 => ?_)
      · have hri : r = x := by first | (rw [← hr, tx_line_u, if_neg (by omega)]) | (rw [← hr, tx_line_u, if_pos (by omega), if_pos c_2])
        subst hri
        exact kx H locs ls hP hD hS (lv_sub hl [0, 1, 2] rfl)
      · refine lv_iload_n hx hb d_Model_skip_85 rfl (lv_at hl 0 rfl) ?_
        refine lv_iconst (v := nI 1) hx hb d_Model_skip_86 (by decide) ?_
        refine nv_iadd hx hb d_Model_skip_87 ?_
        refine lv_istore_n (lv' := [(2, .int (nI (x + 1))), (0, .ref qm), (1, .int (nI i0))]) hx hb d_Model_skip_88 rfl hl (by decide) rfl (fun ls hl => ?_)
        refine lv_goto (tgt := 66) hx hb d_Model_skip_89 (by decide) ?_
        exact ih (x + 1) H locs ls (by omega) (by omega) (by rw [← hr, tx_line_u ft n x, if_pos (by omega), if_neg c_2]) hP hD hS (lv_sub hl [0, 1, 2] rfl)
set_option maxHeartbeats 4000000 in
set_option maxRecDepth 100000 in
theorem lp_Model_skip_com {p : Program} {l : Launch} {e : Env} {s : State} {m : MethodId} {args : Array Value} {below : List Frame} {meth : Method} {c : Code} {Q : State → Prop} {A : Nat → Prop} {dC : Nat → ClassId} {dI : Nat → Nat → Nat} {cB cI cL cZ cC cO : ClassId} {qm q_text : Nat}{f0 f2 f4 f5 f6 f7 f8 f9 f10 f11 f12 f13 f14 f15 f16 f17 f18 f19 f20 f21 f22 f23 f24 f25 f26 f27 f28 f29 f30 f31 f32 f33 f34 f35 f36 f37 f38 f39 f40 f41 f42 f43 f44 f45 f46 f47 f48 f49 f50 f51 f52 f53 f54 f55 f56 f57 f58 f59 f60 f61 f62 f63 f64 f65 f66 f67 f68 f69 f70 : Value} {ft : Nat → Int32} {n : Nat} {i0 x r : Nat} (hn : n ≤ 2000) (hx : p.tables.exec = Jvm.exec) (hb : c.code = b_Model_skip) (hml : c.maxLocals = 5) (hown : s.vm.findClass R_Model = some m.cls) (hts : ∀ w ∈ tb, w.before args s = true) (hA : ∀ q, s.heap.size ≤ q → A q) (hF : stF A s) (hK : va_K (dC, dI) cl [(cB, .byte), (cI, .int), (cL, .long), (cZ, .boolean), (cC, .char), (cO, .object "java/lang/Object")] s)
    (kx : ∀  (H : Heap) (locs : List Loc) (ls : Array Slot), va_P (dC, dI) cl [(qm, .inr (13, [f0, .ref q_text, f2, .int (nI n), f4, f5, f6, f7, f8, f9, f10, f11, f12, f13, f14, f15, f16, f17, f18, f19, f20, f21, f22, f23, f24, f25, f26, f27, f28, f29, f30, f31, f32, f33, f34, f35, f36, f37, f38, f39, f40, f41, f42, f43, f44, f45, f46, f47, f48, f49, f50, f51, f52, f53, f54, f55, f56, f57, f58, f59, f60, f61, f62, f63, f64, f65, f66, f67, f68, f69, f70])), (q_text, .inl (cI, 2000, .inl ft))] H → va_D A [(qm, .inr (13, [f0, .ref q_text, f2, .int (nI n), f4, f5, f6, f7, f8, f9, f10, f11, f12, f13, f14, f15, f16, f17, f18, f19, f20, f21, f22, f23, f24, f25, f26, f27, f28, f29, f30, f31, f32, f33, f34, f35, f36, f37, f38, f39, f40, f41, f42, f43, f44, f45, f46, f47, f48, f49, f50, f51, f52, f53, f54, f55, f56, f57, f58, f59, f60, f61, f62, f63, f64, f65, f66, f67, f68, f69, f70])), (q_text, .inl (cI, 2000, .inl ft))] → va_S A s.heap H locs → lv_has ls 5 [(4, .int (nI r)), (2, .int (nI x)), (0, .ref qm), (1, .int (nI i0))] → W p l e (headSpec w_Model_skip { frames := 1, cells := 0, slots := 0, locals := 30 }).room s m args below meth c H locs 0 0 Q (F0 m 158 ls [])) :
    ∀ (k : Nat) (y : Nat) (H : Heap) (locs : List Loc) (ls : Array Slot), n < y + k → y ≤ n → m_com ft n (n - y) y = r → va_P (dC, dI) cl [(qm, .inr (13, [f0, .ref q_text, f2, .int (nI n), f4, f5, f6, f7, f8, f9, f10, f11, f12, f13, f14, f15, f16, f17, f18, f19, f20, f21, f22, f23, f24, f25, f26, f27, f28, f29, f30, f31, f32, f33, f34, f35, f36, f37, f38, f39, f40, f41, f42, f43, f44, f45, f46, f47, f48, f49, f50, f51, f52, f53, f54, f55, f56, f57, f58, f59, f60, f61, f62, f63, f64, f65, f66, f67, f68, f69, f70])), (q_text, .inl (cI, 2000, .inl ft))] H → va_D A [(qm, .inr (13, [f0, .ref q_text, f2, .int (nI n), f4, f5, f6, f7, f8, f9, f10, f11, f12, f13, f14, f15, f16, f17, f18, f19, f20, f21, f22, f23, f24, f25, f26, f27, f28, f29, f30, f31, f32, f33, f34, f35, f36, f37, f38, f39, f40, f41, f42, f43, f44, f45, f46, f47, f48, f49, f50, f51, f52, f53, f54, f55, f56, f57, f58, f59, f60, f61, f62, f63, f64, f65, f66, f67, f68, f69, f70])), (q_text, .inl (cI, 2000, .inl ft))] → va_S A s.heap H locs → lv_has ls 5 [(4, .int (nI y)), (2, .int (nI x)), (0, .ref qm), (1, .int (nI i0))] → W p l e (headSpec w_Model_skip { frames := 1, cells := 0, slots := 0, locals := 30 }).room s m args below meth c H locs 0 0 Q (F0 m 115 ls []) := by
  intro k
  induction k with
  | zero =>
    intro y H locs ls hk hi hr hP hD hS hl
    exfalso; omega
  | succ k ih =>
    intro y H locs ls hk hi hr hP hD hS hl
    refine lv_iload hx hb d_Model_skip_115 (lv_at hl 0 rfl) ?_
    refine lv_aload_n hx hb d_Model_skip_117 rfl (lv_at hl 2 rfl) ?_
    refine va_get (D := (dC, dI)) (ci := 13) (v := .int (nI n)) (C := R_Model) (T := F_Model) (N := 71) hx hb hts i_Model hown hK hP 0 rfl rfl 3 (by decide) (hts _ k_877) (fun _ h9 => h9) rfl d_Model_skip_118 ?_
    refine nv_icmp_ge (tgt := 158) hx hb (by omega) (by omega) d_Model_skip_121 (by decide) (fun c_1 => ?_) (fun c_1 => ?_)
    · have hri : r = y := by first | (rw [← hr, m_com_u, if_neg (by omega)]) | (rw [← hr, m_com_u, if_pos (by omega), if_pos ⟨c_1, c_1⟩])
      subst hri
      exact kx H locs ls hP hD hS (lv_sub hl [0, 1, 2, 3] rfl)
    · refine lv_aload_n hx hb d_Model_skip_124 rfl (lv_at hl 2 rfl) ?_
      refine va_get (D := (dC, dI)) (ci := 13) (v := .ref q_text) (C := R_Model) (T := F_Model) (N := 71) hx hb hts i_Model hown hK hP 0 rfl rfl 1 (by decide) (hts _ k_875) (fun _ h9 => h9) rfl d_Model_skip_125 ?_
      refine lv_iload hx hb d_Model_skip_128 (lv_at hl 0 rfl) ?_
      refine nv_iald hx hb hK hP 1 1 rfl rfl (by omega) (by decide) d_Model_skip_130 ?_
      refine lv_bipush (v := nI 42) hx hb d_Model_skip_131 (by decide) ?_
      refine lv_icmp_ne (tgt := 149) hx hb d_Model_skip_133 (by decide) (fun c_2 => ?_) (fun c_2 => ?_)
      · refine lv_iload hx hb d_Model_skip_149 (lv_at hl 0 rfl) ?_
        refine lv_iconst (v := nI 1) hx hb d_Model_skip_151 (by decide) ?_
        refine nv_iadd hx hb d_Model_skip_152 ?_
        refine lv_istore (lv' := [(4, .int (nI (y + 1))), (2, .int (nI x)), (0, .ref qm), (1, .int (nI i0))]) hx hb d_Model_skip_153 hl (by decide) rfl (fun ls hl => ?_)
        refine lv_goto (tgt := 115) hx hb d_Model_skip_155 (by decide) ?_
        exact ih (y + 1) H locs ls (by omega) (by omega) (by rw [← hr, m_com_u ft n y, if_pos (by omega), if_neg (fun q => c_2 (by first | exact q.1 | exact q.2))]) hP hD hS (lv_sub hl [0, 1, 2, 3] rfl)
      · refine lv_aload_n hx hb d_Model_skip_136 rfl (lv_at hl 2 rfl) ?_
        refine lv_iload hx hb d_Model_skip_137 (lv_at hl 0 rfl) ?_
        refine lv_iconst (v := nI 1) hx hb d_Model_skip_139 (by decide) ?_
        refine nv_iadd hx hb d_Model_skip_140 ?_
        refine wc_i (wc := [(qm, .inr (13, [f0, .ref q_text, f2, .int (nI n), f4, f5, f6, f7, f8, f9, f10, f11, f12, f13, f14, f15, f16, f17, f18, f19, f20, f21, f22, f23, f24, f25, f26, f27, f28, f29, f30, f31, f32, f33, f34, f35, f36, f37, f38, f39, f40, f41, f42, f43, f44, f45, f46, f47, f48, f49, f50, f51, f52, f53, f54, f55, f56, f57, f58, f59, f60, f61, f62, f63, f64, f65, f66, f67, f68, f69, f70])), (q_text, .inl (cI, 2000, .inl ft))]) (wr := []) (va_runV (As := [.int (nI (y + 1))]) (rest := []) ⟨hx, hb, hml, hown, hts⟩ (c_Model_at l dC dI cB cI cL cZ cC cO ft n (y + 1) _ hn (by omega)) (cwV 1 hts (good_V k_1109 k_1111 s_Model_at k_19 k_1112) rfl rfl rfl (by decide +kernel) ⟨Nat.le_of_ble_eq_true rfl, Nat.le_of_ble_eq_true rfl⟩) (wc_preV (k0 := 0) (ci := 13) (r := (R_Model, F_Model, 71)) hK hP hD hS hA hF [0, 1] (by decide) rfl rfl rfl) rfl rfl hl.1 rfl (lv_room (Nat.le_of_ble_eq_true rfl)) d_Model_skip_141 ⟨Nat.le_of_ble_eq_true rfl, Nat.le_of_ble_eq_true rfl⟩) hP hD hS hA [0, 1] [] rfl rfl (by decide) (by decide) (fun r_4 u H locs w_3 hP hD hS => ?_)
        have hP : va_P (dC, dI) cl [(qm, .inr (13, [f0, .ref q_text, f2, .int (nI n), f4, f5, f6, f7, f8, f9, f10, f11, f12, f13, f14, f15, f16, f17, f18, f19, f20, f21, f22, f23, f24, f25, f26, f27, f28, f29, f30, f31, f32, f33, f34, f35, f36, f37, f38, f39, f40, f41, f42, f43, f44, f45, f46, f47, f48, f49, f50, f51, f52, f53, f54, f55, f56, f57, f58, f59, f60, f61, f62, f63, f64, f65, f66, f67, f68, f69, f70])), (q_text, .inl (cI, 2000, .inl ft))] H := hP
        have hD : va_D A [(qm, .inr (13, [f0, .ref q_text, f2, .int (nI n), f4, f5, f6, f7, f8, f9, f10, f11, f12, f13, f14, f15, f16, f17, f18, f19, f20, f21, f22, f23, f24, f25, f26, f27, f28, f29, f30, f31, f32, f33, f34, f35, f36, f37, f38, f39, f40, f41, f42, f43, f44, f45, f46, f47, f48, f49, f50, f51, f52, f53, f54, f55, f56, f57, f58, f59, f60, f61, f62, f63, f64, f65, f66, f67, f68, f69, f70])), (q_text, .inl (cI, 2000, .inl ft))] := hD
        subst w_3
        refine lv_bipush (v := nI 47) hx hb d_Model_skip_144 (by decide) ?_
        refine lv_icmp_eq (tgt := 158) hx hb d_Model_skip_146 (by decide) (fun c_5 => ?_) (fun c_5 => ?_)
        · have hri : r = y := by first | (rw [← hr, m_com_u, if_neg (by omega)]) | (rw [← hr, m_com_u, if_pos (by omega), if_pos ⟨c_2, c_5⟩])
          subst hri
          exact kx H locs ls hP hD hS (lv_sub hl [0, 1, 2, 3] rfl)
        · refine lv_iload hx hb d_Model_skip_149 (lv_at hl 0 rfl) ?_
          refine lv_iconst (v := nI 1) hx hb d_Model_skip_151 (by decide) ?_
          refine nv_iadd hx hb d_Model_skip_152 ?_
          refine lv_istore (lv' := [(4, .int (nI (y + 1))), (2, .int (nI x)), (0, .ref qm), (1, .int (nI i0))]) hx hb d_Model_skip_153 hl (by decide) rfl (fun ls hl => ?_)
          refine lv_goto (tgt := 115) hx hb d_Model_skip_155 (by decide) ?_
          exact ih (y + 1) H locs ls (by omega) (by omega) (by rw [← hr, m_com_u ft n y, if_pos (by omega), if_neg (fun q => c_5 (by first | exact q.1 | exact q.2))]) hP hD hS (lv_sub hl [0, 1, 2, 3] rfl)
set_option maxHeartbeats 4000000 in
set_option maxRecDepth 100000 in
theorem lp_Model_skip {p : Program} {l : Launch} {e : Env} {s : State} {m : MethodId} {args : Array Value} {below : List Frame} {meth : Method} {c : Code} {Q : State → Prop} {A : Nat → Prop} {dC : Nat → ClassId} {dI : Nat → Nat → Nat} {cB cI cL cZ cC cO : ClassId} {qm q_text : Nat}{f0 f2 f4 f5 f6 f7 f8 f9 f10 f11 f12 f13 f14 f15 f16 f17 f18 f19 f20 f21 f22 f23 f24 f25 f26 f27 f28 f29 f30 f31 f32 f33 f34 f35 f36 f37 f38 f39 f40 f41 f42 f43 f44 f45 f46 f47 f48 f49 f50 f51 f52 f53 f54 f55 f56 f57 f58 f59 f60 f61 f62 f63 f64 f65 f66 f67 f68 f69 f70 : Value} {ft : Nat → Int32} {n : Nat} {i0 : Nat} {r : Int32} (hn : n ≤ 2000) (hx : p.tables.exec = Jvm.exec) (hb : c.code = b_Model_skip) (hml : c.maxLocals = 5) (hown : s.vm.findClass R_Model = some m.cls) (hts : ∀ w ∈ tb, w.before args s = true) (hA : ∀ q, s.heap.size ≤ q → A q) (hF : stF A s) (hK : va_K (dC, dI) cl [(cB, .byte), (cI, .int), (cL, .long), (cZ, .boolean), (cC, .char), (cO, .object "java/lang/Object")] s)
    (kx : ∀  (H : Heap) (locs : List Loc) (ls : Array Slot), va_P (dC, dI) cl [(qm, .inr (13, [f0, .ref q_text, f2, .int (nI n), f4, f5, f6, f7, f8, f9, f10, f11, f12, f13, f14, f15, f16, f17, f18, f19, f20, f21, f22, f23, f24, f25, f26, f27, f28, f29, f30, f31, f32, f33, f34, f35, f36, f37, f38, f39, f40, f41, f42, f43, f44, f45, f46, f47, f48, f49, f50, f51, f52, f53, f54, f55, f56, f57, f58, f59, f60, f61, f62, f63, f64, f65, f66, f67, f68, f69, f70])), (q_text, .inl (cI, 2000, .inl ft))] H → va_D A [(qm, .inr (13, [f0, .ref q_text, f2, .int (nI n), f4, f5, f6, f7, f8, f9, f10, f11, f12, f13, f14, f15, f16, f17, f18, f19, f20, f21, f22, f23, f24, f25, f26, f27, f28, f29, f30, f31, f32, f33, f34, f35, f36, f37, f38, f39, f40, f41, f42, f43, f44, f45, f46, f47, f48, f49, f50, f51, f52, f53, f54, f55, f56, f57, f58, f59, f60, f61, f62, f63, f64, f65, f66, f67, f68, f69, f70])), (q_text, .inl (cI, 2000, .inl ft))] → va_S A s.heap H locs → lv_has ls 5 [(0, .ref qm), (1, .int (nI i0))] → W p l e (headSpec w_Model_skip { frames := 1, cells := 0, slots := 0, locals := 30 }).room s m args below meth c H locs 0 0 Q (F0 m 171 ls [.int r])) (ky : ∀  (H : Heap) (locs : List Loc) (ls : Array Slot), va_P (dC, dI) cl [(qm, .inr (13, [f0, .ref q_text, f2, .int (nI n), f4, f5, f6, f7, f8, f9, f10, f11, f12, f13, f14, f15, f16, f17, f18, f19, f20, f21, f22, f23, f24, f25, f26, f27, f28, f29, f30, f31, f32, f33, f34, f35, f36, f37, f38, f39, f40, f41, f42, f43, f44, f45, f46, f47, f48, f49, f50, f51, f52, f53, f54, f55, f56, f57, f58, f59, f60, f61, f62, f63, f64, f65, f66, f67, f68, f69, f70])), (q_text, .inl (cI, 2000, .inl ft))] H → va_D A [(qm, .inr (13, [f0, .ref q_text, f2, .int (nI n), f4, f5, f6, f7, f8, f9, f10, f11, f12, f13, f14, f15, f16, f17, f18, f19, f20, f21, f22, f23, f24, f25, f26, f27, f28, f29, f30, f31, f32, f33, f34, f35, f36, f37, f38, f39, f40, f41, f42, f43, f44, f45, f46, f47, f48, f49, f50, f51, f52, f53, f54, f55, f56, f57, f58, f59, f60, f61, f62, f63, f64, f65, f66, f67, f68, f69, f70])), (q_text, .inl (cI, 2000, .inl ft))] → va_S A s.heap H locs → lv_has ls 5 [(0, .ref qm), (1, .int (nI i0))] → W p l e (headSpec w_Model_skip { frames := 1, cells := 0, slots := 0, locals := 30 }).room s m args below meth c H locs 0 0 Q (F0 m 181 ls [.int r])) (kz : ∀  (H : Heap) (locs : List Loc) (ls : Array Slot), va_P (dC, dI) cl [(qm, .inr (13, [f0, .ref q_text, f2, .int (nI n), f4, f5, f6, f7, f8, f9, f10, f11, f12, f13, f14, f15, f16, f17, f18, f19, f20, f21, f22, f23, f24, f25, f26, f27, f28, f29, f30, f31, f32, f33, f34, f35, f36, f37, f38, f39, f40, f41, f42, f43, f44, f45, f46, f47, f48, f49, f50, f51, f52, f53, f54, f55, f56, f57, f58, f59, f60, f61, f62, f63, f64, f65, f66, f67, f68, f69, f70])), (q_text, .inl (cI, 2000, .inl ft))] H → va_D A [(qm, .inr (13, [f0, .ref q_text, f2, .int (nI n), f4, f5, f6, f7, f8, f9, f10, f11, f12, f13, f14, f15, f16, f17, f18, f19, f20, f21, f22, f23, f24, f25, f26, f27, f28, f29, f30, f31, f32, f33, f34, f35, f36, f37, f38, f39, f40, f41, f42, f43, f44, f45, f46, f47, f48, f49, f50, f51, f52, f53, f54, f55, f56, f57, f58, f59, f60, f61, f62, f63, f64, f65, f66, f67, f68, f69, f70])), (q_text, .inl (cI, 2000, .inl ft))] → va_S A s.heap H locs → lv_has ls 5 [(0, .ref qm), (1, .int (nI i0))] → W p l e (headSpec w_Model_skip { frames := 1, cells := 0, slots := 0, locals := 30 }).room s m args below meth c H locs 0 0 Q (F0 m 186 ls [.int r])) :
    ∀ (k : Nat) (j x : Nat) (H : Heap) (locs : List Loc) (ls : Array Slot), n + 2 < x + k → x ≤ n + 2 → n ≤ j + x → m_skip ft n j x = r → va_P (dC, dI) cl [(qm, .inr (13, [f0, .ref q_text, f2, .int (nI n), f4, f5, f6, f7, f8, f9, f10, f11, f12, f13, f14, f15, f16, f17, f18, f19, f20, f21, f22, f23, f24, f25, f26, f27, f28, f29, f30, f31, f32, f33, f34, f35, f36, f37, f38, f39, f40, f41, f42, f43, f44, f45, f46, f47, f48, f49, f50, f51, f52, f53, f54, f55, f56, f57, f58, f59, f60, f61, f62, f63, f64, f65, f66, f67, f68, f69, f70])), (q_text, .inl (cI, 2000, .inl ft))] H → va_D A [(qm, .inr (13, [f0, .ref q_text, f2, .int (nI n), f4, f5, f6, f7, f8, f9, f10, f11, f12, f13, f14, f15, f16, f17, f18, f19, f20, f21, f22, f23, f24, f25, f26, f27, f28, f29, f30, f31, f32, f33, f34, f35, f36, f37, f38, f39, f40, f41, f42, f43, f44, f45, f46, f47, f48, f49, f50, f51, f52, f53, f54, f55, f56, f57, f58, f59, f60, f61, f62, f63, f64, f65, f66, f67, f68, f69, f70])), (q_text, .inl (cI, 2000, .inl ft))] → va_S A s.heap H locs → lv_has ls 5 [(2, .int (nI x)), (0, .ref qm), (1, .int (nI i0))] → W p l e (headSpec w_Model_skip { frames := 1, cells := 0, slots := 0, locals := 30 }).room s m args below meth c H locs 0 0 Q (F0 m 2 ls []) := by
  intro k
  induction k with
  | zero =>
    intro j x H locs ls hk hi hj hr hP hD hS hl
    exfalso; omega
  | succ k ih =>
    intro j x H locs ls hk hi hj hr hP hD hS hl
    refine lv_iload_n hx hb d_Model_skip_2 rfl (lv_at hl 0 rfl) ?_
    refine lv_aload_n hx hb d_Model_skip_3 rfl (lv_at hl 1 rfl) ?_
    refine va_get (D := (dC, dI)) (ci := 13) (v := .int (nI n)) (C := R_Model) (T := F_Model) (N := 71) hx hb hts i_Model hown hK hP 0 rfl rfl 3 (by decide) (hts _ k_877) (fun _ h9 => h9) rfl d_Model_skip_4 ?_
    refine nv_icmp_ge (tgt := 185) hx hb (by omega) (by omega) d_Model_skip_7 (by decide) (fun c_1 => ?_) (fun c_1 => ?_)
    · refine lv_iload_n hx hb d_Model_skip_185 rfl (lv_at hl 0 rfl) ?_
      have hri : r = nI x := by rw [← hr, m_skip_e (by omega)]
      subst hri
      exact kz H locs ls hP hD hS (lv_sub hl [1, 2] rfl)
    · obtain ⟨j, rfl⟩ : ∃ j', j = j' + 1 := ⟨j - 1, by omega⟩
      have hxn : x < n := c_1
      refine lv_aload_n hx hb d_Model_skip_10 rfl (lv_at hl 1 rfl) ?_
      refine va_get (D := (dC, dI)) (ci := 13) (v := .ref q_text) (C := R_Model) (T := F_Model) (N := 71) hx hb hts i_Model hown hK hP 0 rfl rfl 1 (by decide) (hts _ k_875) (fun _ h9 => h9) rfl d_Model_skip_11 ?_
      refine lv_iload_n hx hb d_Model_skip_14 rfl (lv_at hl 0 rfl) ?_
      refine nv_iald hx hb hK hP 1 1 rfl rfl (by omega) (by decide) d_Model_skip_15 ?_
      refine lv_istore_n (lv' := [(3, .int (ft x)), (2, .int (nI x)), (0, .ref qm), (1, .int (nI i0))]) hx hb d_Model_skip_16 rfl hl (by decide) rfl (fun ls hl => ?_)
      refine lv_iload_n hx hb d_Model_skip_17 rfl (lv_at hl 0 rfl) ?_
      refine lv_bipush (v := nI 9) hx hb d_Model_skip_18 (by decide) ?_
      refine lv_icmp_eq (tgt := 41) hx hb d_Model_skip_20 (by decide) (fun c_2 => ?_) (fun c_2 => ?_)
      · have hbl : tx_blank (ft x) = true := by simp [tx_blank, c_2]
        refine lv_iload_n hx hb d_Model_skip_41 rfl (lv_at hl 1 rfl) ?_
        refine lv_iconst (v := nI 1) hx hb d_Model_skip_42 (by decide) ?_
        refine nv_iadd hx hb d_Model_skip_43 ?_
        refine lv_istore_n (lv' := [(2, .int (nI (x + 1))), (3, .int (ft x)), (0, .ref qm), (1, .int (nI i0))]) hx hb d_Model_skip_44 rfl hl (by decide) rfl (fun ls hl => ?_)
        refine lv_goto (tgt := 182) hx hb d_Model_skip_45 (by decide) ?_
        refine lv_goto (tgt := 2) hx hb d_Model_skip_182 (by decide) ?_
        exact ih j (x + 1) H locs ls (by omega) (by omega) (by omega) (by rw [← hr, m_skip_s, if_pos hxn, if_pos hbl]) hP hD hS (lv_sub hl [0, 2, 3] rfl)
      · refine lv_iload_n hx hb d_Model_skip_23 rfl (lv_at hl 0 rfl) ?_
        refine lv_bipush (v := nI 10) hx hb d_Model_skip_24 (by decide) ?_
        refine lv_icmp_eq (tgt := 41) hx hb d_Model_skip_26 (by decide) (fun c_3 => ?_) (fun c_3 => ?_)
        · have hbl : tx_blank (ft x) = true := by simp [tx_blank, c_2, c_3]
          refine lv_iload_n hx hb d_Model_skip_41 rfl (lv_at hl 1 rfl) ?_
          refine lv_iconst (v := nI 1) hx hb d_Model_skip_42 (by decide) ?_
          refine nv_iadd hx hb d_Model_skip_43 ?_
          refine lv_istore_n (lv' := [(2, .int (nI (x + 1))), (3, .int (ft x)), (0, .ref qm), (1, .int (nI i0))]) hx hb d_Model_skip_44 rfl hl (by decide) rfl (fun ls hl => ?_)
          refine lv_goto (tgt := 182) hx hb d_Model_skip_45 (by decide) ?_
          refine lv_goto (tgt := 2) hx hb d_Model_skip_182 (by decide) ?_
          exact ih j (x + 1) H locs ls (by omega) (by omega) (by omega) (by rw [← hr, m_skip_s, if_pos hxn, if_pos hbl]) hP hD hS (lv_sub hl [0, 2, 3] rfl)
        · refine lv_iload_n hx hb d_Model_skip_29 rfl (lv_at hl 0 rfl) ?_
          refine lv_bipush (v := nI 13) hx hb d_Model_skip_30 (by decide) ?_
          refine lv_icmp_eq (tgt := 41) hx hb d_Model_skip_32 (by decide) (fun c_4 => ?_) (fun c_4 => ?_)
          · have hbl : tx_blank (ft x) = true := by simp [tx_blank, c_2, c_3, c_4]
            refine lv_iload_n hx hb d_Model_skip_41 rfl (lv_at hl 1 rfl) ?_
            refine lv_iconst (v := nI 1) hx hb d_Model_skip_42 (by decide) ?_
            refine nv_iadd hx hb d_Model_skip_43 ?_
            refine lv_istore_n (lv' := [(2, .int (nI (x + 1))), (3, .int (ft x)), (0, .ref qm), (1, .int (nI i0))]) hx hb d_Model_skip_44 rfl hl (by decide) rfl (fun ls hl => ?_)
            refine lv_goto (tgt := 182) hx hb d_Model_skip_45 (by decide) ?_
            refine lv_goto (tgt := 2) hx hb d_Model_skip_182 (by decide) ?_
            exact ih j (x + 1) H locs ls (by omega) (by omega) (by omega) (by rw [← hr, m_skip_s, if_pos hxn, if_pos hbl]) hP hD hS (lv_sub hl [0, 2, 3] rfl)
          · refine lv_iload_n hx hb d_Model_skip_35 rfl (lv_at hl 0 rfl) ?_
            refine lv_bipush (v := nI 32) hx hb d_Model_skip_36 (by decide) ?_
            refine lv_icmp_ne (tgt := 48) hx hb d_Model_skip_38 (by decide) (fun c_5 => ?_) (fun c_5 => ?_)
            · have hbl : ¬ tx_blank (ft x) = true := by simp [tx_blank, c_2, c_3, c_4, c_5]
              refine lv_iload_n hx hb d_Model_skip_48 rfl (lv_at hl 0 rfl) ?_
              refine lv_bipush (v := nI 47) hx hb d_Model_skip_49 (by decide) ?_
              refine lv_icmp_ne (tgt := 92) hx hb d_Model_skip_51 (by decide) (fun c_6 => ?_) (fun c_6 => ?_)
              · have hl1 : ¬ (ft x = nI 47 ∧ m_at ft n (x + 1) = nI 47) := fun q => by first | exact c_6 q.1 | exact c_6 q.2
                refine lv_iload_n hx hb d_Model_skip_92 rfl (lv_at hl 0 rfl) ?_
                refine lv_bipush (v := nI 47) hx hb d_Model_skip_93 (by decide) ?_
                refine lv_icmp_ne (tgt := 180) hx hb d_Model_skip_95 (by decide) (fun c_7 => ?_) (fun c_7 => ?_)
                · have hc1 : ¬ (ft x = nI 47 ∧ m_at ft n (x + 1) = nI 42) := fun q => by first | exact c_7 q.1 | exact c_7 q.2
                  refine lv_iload_n hx hb d_Model_skip_180 rfl (lv_at hl 1 rfl) ?_
                  have hri : r = nI x := by rw [← hr, m_skip_s, if_pos hxn, if_neg hbl, if_neg hl1, if_neg hc1]
                  subst hri
                  exact ky H locs ls hP hD hS (lv_sub hl [2, 3] rfl)
                · refine lv_aload_n hx hb d_Model_skip_98 rfl (lv_at hl 2 rfl) ?_
                  refine lv_iload_n hx hb d_Model_skip_99 rfl (lv_at hl 1 rfl) ?_
                  refine lv_iconst (v := nI 1) hx hb d_Model_skip_100 (by decide) ?_
                  refine nv_iadd hx hb d_Model_skip_101 ?_
                  refine wc_i (wc := [(qm, .inr (13, [f0, .ref q_text, f2, .int (nI n), f4, f5, f6, f7, f8, f9, f10, f11, f12, f13, f14, f15, f16, f17, f18, f19, f20, f21, f22, f23, f24, f25, f26, f27, f28, f29, f30, f31, f32, f33, f34, f35, f36, f37, f38, f39, f40, f41, f42, f43, f44, f45, f46, f47, f48, f49, f50, f51, f52, f53, f54, f55, f56, f57, f58, f59, f60, f61, f62, f63, f64, f65, f66, f67, f68, f69, f70])), (q_text, .inl (cI, 2000, .inl ft))]) (wr := []) (va_runV (As := [.int (nI (x + 1))]) (rest := []) ⟨hx, hb, hml, hown, hts⟩ (c_Model_at l dC dI cB cI cL cZ cC cO ft n (x + 1) _ hn (by omega)) (cwV 1 hts (good_V k_1109 k_1111 s_Model_at k_19 k_1112) rfl rfl rfl (by decide +kernel) ⟨Nat.le_of_ble_eq_true rfl, Nat.le_of_ble_eq_true rfl⟩) (wc_preV (k0 := 0) (ci := 13) (r := (R_Model, F_Model, 71)) hK hP hD hS hA hF [0, 1] (by decide) rfl rfl rfl) rfl rfl hl.1 rfl (lv_room (Nat.le_of_ble_eq_true rfl)) d_Model_skip_102 ⟨Nat.le_of_ble_eq_true rfl, Nat.le_of_ble_eq_true rfl⟩) hP hD hS hA [0, 1] [] rfl rfl (by decide) (by decide) (fun r_9 u H locs w_8 hP hD hS => ?_)
                  have hP : va_P (dC, dI) cl [(qm, .inr (13, [f0, .ref q_text, f2, .int (nI n), f4, f5, f6, f7, f8, f9, f10, f11, f12, f13, f14, f15, f16, f17, f18, f19, f20, f21, f22, f23, f24, f25, f26, f27, f28, f29, f30, f31, f32, f33, f34, f35, f36, f37, f38, f39, f40, f41, f42, f43, f44, f45, f46, f47, f48, f49, f50, f51, f52, f53, f54, f55, f56, f57, f58, f59, f60, f61, f62, f63, f64, f65, f66, f67, f68, f69, f70])), (q_text, .inl (cI, 2000, .inl ft))] H := hP
                  have hD : va_D A [(qm, .inr (13, [f0, .ref q_text, f2, .int (nI n), f4, f5, f6, f7, f8, f9, f10, f11, f12, f13, f14, f15, f16, f17, f18, f19, f20, f21, f22, f23, f24, f25, f26, f27, f28, f29, f30, f31, f32, f33, f34, f35, f36, f37, f38, f39, f40, f41, f42, f43, f44, f45, f46, f47, f48, f49, f50, f51, f52, f53, f54, f55, f56, f57, f58, f59, f60, f61, f62, f63, f64, f65, f66, f67, f68, f69, f70])), (q_text, .inl (cI, 2000, .inl ft))] := hD
                  subst w_8
                  refine lv_bipush (v := nI 42) hx hb d_Model_skip_105 (by decide) ?_
                  refine lv_icmp_ne (tgt := 180) hx hb d_Model_skip_107 (by decide) (fun c_10 => ?_) (fun c_10 => ?_)
                  · have hc1 : ¬ (ft x = nI 47 ∧ m_at ft n (x + 1) = nI 42) := fun q => by first | exact c_10 q.1 | exact c_10 q.2
                    refine lv_iload_n hx hb d_Model_skip_180 rfl (lv_at hl 1 rfl) ?_
                    have hri : r = nI x := by rw [← hr, m_skip_s, if_pos hxn, if_neg hbl, if_neg hl1, if_neg hc1]
                    subst hri
                    exact ky H locs ls hP hD hS (lv_sub hl [2, 3] rfl)
                  · refine lv_iload_n hx hb d_Model_skip_110 rfl (lv_at hl 1 rfl) ?_
                    refine lv_iconst (v := nI 2) hx hb d_Model_skip_111 (by decide) ?_
                    refine nv_iadd hx hb d_Model_skip_112 ?_
                    refine lv_istore (lv' := [(4, .int (nI (x + 2))), (3, .int (ft x)), (2, .int (nI x)), (0, .ref qm), (1, .int (nI i0))]) hx hb d_Model_skip_113 hl (by decide) rfl (fun ls hl => ?_)
                    have hc1 : ft x = nI 47 ∧ m_at ft n (x + 1) = nI 42 := ⟨c_7, c_10⟩
                    have hx2 : x + 1 < n := m_at_in hc1.2 (by decide)
                    have hge : x + 2 ≤ m_com ft n (n - (x + 2)) (x + 2) := m_com_ge ft n _ _
                    have hle : m_com ft n (n - (x + 2)) (x + 2) ≤ n := by have := m_com_le ft n (n - (x + 2)) (x + 2); omega
                    refine lp_Model_skip_com (r := m_com ft n (n - (x + 2)) (x + 2)) hn hx hb hml hown hts hA hF hK (fun H locs ls hP hD hS hl => ?_) (n + 1 - (x + 2)) (x + 2) _ _ ls (by omega) (by omega) rfl hP hD hS (lv_sub hl [0, 2, 3, 4] rfl)
                    refine lv_iload hx hb d_Model_skip_158 (lv_at hl 0 rfl) ?_
                    refine lv_aload_n hx hb d_Model_skip_160 rfl (lv_at hl 2 rfl) ?_
                    refine va_get (D := (dC, dI)) (ci := 13) (v := .int (nI n)) (C := R_Model) (T := F_Model) (N := 71) hx hb hts i_Model hown hK hP 0 rfl rfl 3 (by decide) (hts _ k_877) (fun _ h9 => h9) rfl d_Model_skip_161 ?_
                    refine nv_icmp_lt (tgt := 172) hx hb (by omega) (by omega) d_Model_skip_164 (by decide) (fun c_11 => ?_) (fun c_11 => ?_)
                    · refine lv_iload hx hb d_Model_skip_172 (lv_at hl 0 rfl) ?_
                      refine lv_iconst (v := nI 2) hx hb d_Model_skip_174 (by decide) ?_
                      refine nv_iadd hx hb d_Model_skip_175 ?_
                      refine lv_istore_n (lv' := [(2, .int (nI ((m_com ft n (n - (x + 2)) (x + 2)) + 2))), (4, .int (nI (m_com ft n (n - (x + 2)) (x + 2)))), (0, .ref qm), (1, .int (nI i0))]) hx hb d_Model_skip_176 rfl hl (by decide) rfl (fun ls hl => ?_)
                      refine lv_goto (tgt := 182) hx hb d_Model_skip_177 (by decide) ?_
                      refine lv_goto (tgt := 2) hx hb d_Model_skip_182 (by decide) ?_
                      exact ih j ((m_com ft n (n - (x + 2)) (x + 2)) + 2) H locs ls (by omega) (by omega) (by omega) (by rw [← hr, m_skip_s, if_pos hxn, if_neg hbl, if_neg hl1, if_pos hc1, if_neg (by omega)]) hP hD hS (lv_sub hl [0, 2, 3] rfl)
                    · refine lv_bipush (v := (-2)) hx hb d_Model_skip_167 (by decide) ?_
                      refine lv_iload_n hx hb d_Model_skip_169 rfl (lv_at hl 1 rfl) ?_
                      refine lv_isub hx hb d_Model_skip_170 ?_
                      have hri : r = (-2) - nI x := by rw [← hr, m_skip_s, if_pos hxn, if_neg hbl, if_neg hl1, if_pos hc1, if_pos (by omega)]
                      subst hri
                      exact kx H locs ls hP hD hS (lv_sub hl [2, 3] rfl)
              · refine lv_aload_n hx hb d_Model_skip_54 rfl (lv_at hl 2 rfl) ?_
                refine lv_iload_n hx hb d_Model_skip_55 rfl (lv_at hl 1 rfl) ?_
                refine lv_iconst (v := nI 1) hx hb d_Model_skip_56 (by decide) ?_
                refine nv_iadd hx hb d_Model_skip_57 ?_
                refine wc_i (wc := [(qm, .inr (13, [f0, .ref q_text, f2, .int (nI n), f4, f5, f6, f7, f8, f9, f10, f11, f12, f13, f14, f15, f16, f17, f18, f19, f20, f21, f22, f23, f24, f25, f26, f27, f28, f29, f30, f31, f32, f33, f34, f35, f36, f37, f38, f39, f40, f41, f42, f43, f44, f45, f46, f47, f48, f49, f50, f51, f52, f53, f54, f55, f56, f57, f58, f59, f60, f61, f62, f63, f64, f65, f66, f67, f68, f69, f70])), (q_text, .inl (cI, 2000, .inl ft))]) (wr := []) (va_runV (As := [.int (nI (x + 1))]) (rest := []) ⟨hx, hb, hml, hown, hts⟩ (c_Model_at l dC dI cB cI cL cZ cC cO ft n (x + 1) _ hn (by omega)) (cwV 1 hts (good_V k_1109 k_1111 s_Model_at k_19 k_1112) rfl rfl rfl (by decide +kernel) ⟨Nat.le_of_ble_eq_true rfl, Nat.le_of_ble_eq_true rfl⟩) (wc_preV (k0 := 0) (ci := 13) (r := (R_Model, F_Model, 71)) hK hP hD hS hA hF [0, 1] (by decide) rfl rfl rfl) rfl rfl hl.1 rfl (lv_room (Nat.le_of_ble_eq_true rfl)) d_Model_skip_58 ⟨Nat.le_of_ble_eq_true rfl, Nat.le_of_ble_eq_true rfl⟩) hP hD hS hA [0, 1] [] rfl rfl (by decide) (by decide) (fun r_13 u H locs w_12 hP hD hS => ?_)
                have hP : va_P (dC, dI) cl [(qm, .inr (13, [f0, .ref q_text, f2, .int (nI n), f4, f5, f6, f7, f8, f9, f10, f11, f12, f13, f14, f15, f16, f17, f18, f19, f20, f21, f22, f23, f24, f25, f26, f27, f28, f29, f30, f31, f32, f33, f34, f35, f36, f37, f38, f39, f40, f41, f42, f43, f44, f45, f46, f47, f48, f49, f50, f51, f52, f53, f54, f55, f56, f57, f58, f59, f60, f61, f62, f63, f64, f65, f66, f67, f68, f69, f70])), (q_text, .inl (cI, 2000, .inl ft))] H := hP
                have hD : va_D A [(qm, .inr (13, [f0, .ref q_text, f2, .int (nI n), f4, f5, f6, f7, f8, f9, f10, f11, f12, f13, f14, f15, f16, f17, f18, f19, f20, f21, f22, f23, f24, f25, f26, f27, f28, f29, f30, f31, f32, f33, f34, f35, f36, f37, f38, f39, f40, f41, f42, f43, f44, f45, f46, f47, f48, f49, f50, f51, f52, f53, f54, f55, f56, f57, f58, f59, f60, f61, f62, f63, f64, f65, f66, f67, f68, f69, f70])), (q_text, .inl (cI, 2000, .inl ft))] := hD
                subst w_12
                refine lv_bipush (v := nI 47) hx hb d_Model_skip_61 (by decide) ?_
                refine lv_icmp_ne (tgt := 92) hx hb d_Model_skip_63 (by decide) (fun c_14 => ?_) (fun c_14 => ?_)
                · have hl1 : ¬ (ft x = nI 47 ∧ m_at ft n (x + 1) = nI 47) := fun q => by first | exact c_14 q.1 | exact c_14 q.2
                  refine lv_iload_n hx hb d_Model_skip_92 rfl (lv_at hl 0 rfl) ?_
                  refine lv_bipush (v := nI 47) hx hb d_Model_skip_93 (by decide) ?_
                  refine lv_icmp_ne (tgt := 180) hx hb d_Model_skip_95 (by decide) (fun c_15 => ?_) (fun c_15 => ?_)
                  · have hc1 : ¬ (ft x = nI 47 ∧ m_at ft n (x + 1) = nI 42) := fun q => by first | exact c_15 q.1 | exact c_15 q.2
                    refine lv_iload_n hx hb d_Model_skip_180 rfl (lv_at hl 1 rfl) ?_
                    have hri : r = nI x := by rw [← hr, m_skip_s, if_pos hxn, if_neg hbl, if_neg hl1, if_neg hc1]
                    subst hri
                    exact ky H locs ls hP hD hS (lv_sub hl [2, 3] rfl)
                  · refine lv_aload_n hx hb d_Model_skip_98 rfl (lv_at hl 2 rfl) ?_
                    refine lv_iload_n hx hb d_Model_skip_99 rfl (lv_at hl 1 rfl) ?_
                    refine lv_iconst (v := nI 1) hx hb d_Model_skip_100 (by decide) ?_
                    refine nv_iadd hx hb d_Model_skip_101 ?_
                    refine wc_i (wc := [(qm, .inr (13, [f0, .ref q_text, f2, .int (nI n), f4, f5, f6, f7, f8, f9, f10, f11, f12, f13, f14, f15, f16, f17, f18, f19, f20, f21, f22, f23, f24, f25, f26, f27, f28, f29, f30, f31, f32, f33, f34, f35, f36, f37, f38, f39, f40, f41, f42, f43, f44, f45, f46, f47, f48, f49, f50, f51, f52, f53, f54, f55, f56, f57, f58, f59, f60, f61, f62, f63, f64, f65, f66, f67, f68, f69, f70])), (q_text, .inl (cI, 2000, .inl ft))]) (wr := []) (va_runV (As := [.int (nI (x + 1))]) (rest := []) ⟨hx, hb, hml, hown, hts⟩ (c_Model_at l dC dI cB cI cL cZ cC cO ft n (x + 1) _ hn (by omega)) (cwV 1 hts (good_V k_1109 k_1111 s_Model_at k_19 k_1112) rfl rfl rfl (by decide +kernel) ⟨Nat.le_of_ble_eq_true rfl, Nat.le_of_ble_eq_true rfl⟩) (wc_preV (k0 := 0) (ci := 13) (r := (R_Model, F_Model, 71)) hK hP hD hS hA hF [0, 1] (by decide) rfl rfl rfl) rfl rfl hl.1 rfl (lv_room (Nat.le_of_ble_eq_true rfl)) d_Model_skip_102 ⟨Nat.le_of_ble_eq_true rfl, Nat.le_of_ble_eq_true rfl⟩) hP hD hS hA [0, 1] [] rfl rfl (by decide) (by decide) (fun r_17 u H locs w_16 hP hD hS => ?_)
                    have hP : va_P (dC, dI) cl [(qm, .inr (13, [f0, .ref q_text, f2, .int (nI n), f4, f5, f6, f7, f8, f9, f10, f11, f12, f13, f14, f15, f16, f17, f18, f19, f20, f21, f22, f23, f24, f25, f26, f27, f28, f29, f30, f31, f32, f33, f34, f35, f36, f37, f38, f39, f40, f41, f42, f43, f44, f45, f46, f47, f48, f49, f50, f51, f52, f53, f54, f55, f56, f57, f58, f59, f60, f61, f62, f63, f64, f65, f66, f67, f68, f69, f70])), (q_text, .inl (cI, 2000, .inl ft))] H := hP
                    have hD : va_D A [(qm, .inr (13, [f0, .ref q_text, f2, .int (nI n), f4, f5, f6, f7, f8, f9, f10, f11, f12, f13, f14, f15, f16, f17, f18, f19, f20, f21, f22, f23, f24, f25, f26, f27, f28, f29, f30, f31, f32, f33, f34, f35, f36, f37, f38, f39, f40, f41, f42, f43, f44, f45, f46, f47, f48, f49, f50, f51, f52, f53, f54, f55, f56, f57, f58, f59, f60, f61, f62, f63, f64, f65, f66, f67, f68, f69, f70])), (q_text, .inl (cI, 2000, .inl ft))] := hD
                    subst w_16
                    refine lv_bipush (v := nI 42) hx hb d_Model_skip_105 (by decide) ?_
                    refine lv_icmp_ne (tgt := 180) hx hb d_Model_skip_107 (by decide) (fun c_18 => ?_) (fun c_18 => ?_)
                    · have hc1 : ¬ (ft x = nI 47 ∧ m_at ft n (x + 1) = nI 42) := fun q => by first | exact c_18 q.1 | exact c_18 q.2
                      refine lv_iload_n hx hb d_Model_skip_180 rfl (lv_at hl 1 rfl) ?_
                      have hri : r = nI x := by rw [← hr, m_skip_s, if_pos hxn, if_neg hbl, if_neg hl1, if_neg hc1]
                      subst hri
                      exact ky H locs ls hP hD hS (lv_sub hl [2, 3] rfl)
                    · refine lv_iload_n hx hb d_Model_skip_110 rfl (lv_at hl 1 rfl) ?_
                      refine lv_iconst (v := nI 2) hx hb d_Model_skip_111 (by decide) ?_
                      refine nv_iadd hx hb d_Model_skip_112 ?_
                      refine lv_istore (lv' := [(4, .int (nI (x + 2))), (3, .int (ft x)), (2, .int (nI x)), (0, .ref qm), (1, .int (nI i0))]) hx hb d_Model_skip_113 hl (by decide) rfl (fun ls hl => ?_)
                      have hc1 : ft x = nI 47 ∧ m_at ft n (x + 1) = nI 42 := ⟨c_15, c_18⟩
                      have hx2 : x + 1 < n := m_at_in hc1.2 (by decide)
                      have hge : x + 2 ≤ m_com ft n (n - (x + 2)) (x + 2) := m_com_ge ft n _ _
                      have hle : m_com ft n (n - (x + 2)) (x + 2) ≤ n := by have := m_com_le ft n (n - (x + 2)) (x + 2); omega
                      refine lp_Model_skip_com (r := m_com ft n (n - (x + 2)) (x + 2)) hn hx hb hml hown hts hA hF hK (fun H locs ls hP hD hS hl => ?_) (n + 1 - (x + 2)) (x + 2) _ _ ls (by omega) (by omega) rfl hP hD hS (lv_sub hl [0, 2, 3, 4] rfl)
                      refine lv_iload hx hb d_Model_skip_158 (lv_at hl 0 rfl) ?_
                      refine lv_aload_n hx hb d_Model_skip_160 rfl (lv_at hl 2 rfl) ?_
                      refine va_get (D := (dC, dI)) (ci := 13) (v := .int (nI n)) (C := R_Model) (T := F_Model) (N := 71) hx hb hts i_Model hown hK hP 0 rfl rfl 3 (by decide) (hts _ k_877) (fun _ h9 => h9) rfl d_Model_skip_161 ?_
                      refine nv_icmp_lt (tgt := 172) hx hb (by omega) (by omega) d_Model_skip_164 (by decide) (fun c_19 => ?_) (fun c_19 => ?_)
                      · refine lv_iload hx hb d_Model_skip_172 (lv_at hl 0 rfl) ?_
                        refine lv_iconst (v := nI 2) hx hb d_Model_skip_174 (by decide) ?_
                        refine nv_iadd hx hb d_Model_skip_175 ?_
                        refine lv_istore_n (lv' := [(2, .int (nI ((m_com ft n (n - (x + 2)) (x + 2)) + 2))), (4, .int (nI (m_com ft n (n - (x + 2)) (x + 2)))), (0, .ref qm), (1, .int (nI i0))]) hx hb d_Model_skip_176 rfl hl (by decide) rfl (fun ls hl => ?_)
                        refine lv_goto (tgt := 182) hx hb d_Model_skip_177 (by decide) ?_
                        refine lv_goto (tgt := 2) hx hb d_Model_skip_182 (by decide) ?_
                        exact ih j ((m_com ft n (n - (x + 2)) (x + 2)) + 2) H locs ls (by omega) (by omega) (by omega) (by rw [← hr, m_skip_s, if_pos hxn, if_neg hbl, if_neg hl1, if_pos hc1, if_neg (by omega)]) hP hD hS (lv_sub hl [0, 2, 3] rfl)
                      · refine lv_bipush (v := (-2)) hx hb d_Model_skip_167 (by decide) ?_
                        refine lv_iload_n hx hb d_Model_skip_169 rfl (lv_at hl 1 rfl) ?_
                        refine lv_isub hx hb d_Model_skip_170 ?_
                        have hri : r = (-2) - nI x := by rw [← hr, m_skip_s, if_pos hxn, if_neg hbl, if_neg hl1, if_pos hc1, if_pos (by omega)]
                        subst hri
                        exact kx H locs ls hP hD hS (lv_sub hl [2, 3] rfl)
                · have hl1 : ft x = nI 47 ∧ m_at ft n (x + 1) = nI 47 := ⟨c_6, c_14⟩
                  have hne : ¬ ft x = nI 10 := by rw [hl1.1]; decide
                  have hge : x + 1 ≤ tx_line ft (n - x) x := by rw [tx_line_u, if_pos hxn, if_neg hne]; exact tx_line_ge ft _ _
                  have hle : tx_line ft (n - x) x ≤ n := by have := tx_line_le ft (n - x) x; omega
                  refine lp_Model_skip_line (r := tx_line ft (n - x) x) hn hx hb hml hown hts hA hF hK (fun H locs ls hP hD hS hl => ?_) (n + 1 - x) x _ _ ls (by omega) (by omega) rfl hP hD hS (lv_sub hl [1, 2, 3] rfl)
                  refine lv_goto (tgt := 2) hx hb d_Model_skip_182 (by decide) ?_
                  exact ih j (tx_line ft (n - x) x) H locs ls (by omega) (by omega) (by omega) (by rw [← hr, m_skip_s, if_pos hxn, if_neg hbl, if_pos hl1]) hP hD hS (lv_sub hl [0, 1, 2] rfl)
            · have hbl : tx_blank (ft x) = true := by simp [tx_blank, c_2, c_3, c_4, c_5]
              refine lv_iload_n hx hb d_Model_skip_41 rfl (lv_at hl 1 rfl) ?_
              refine lv_iconst (v := nI 1) hx hb d_Model_skip_42 (by decide) ?_
              refine nv_iadd hx hb d_Model_skip_43 ?_
              refine lv_istore_n (lv' := [(2, .int (nI (x + 1))), (3, .int (ft x)), (0, .ref qm), (1, .int (nI i0))]) hx hb d_Model_skip_44 rfl hl (by decide) rfl (fun ls hl => ?_)
              refine lv_goto (tgt := 182) hx hb d_Model_skip_45 (by decide) ?_
              refine lv_goto (tgt := 2) hx hb d_Model_skip_182 (by decide) ?_
              exact ih j (x + 1) H locs ls (by omega) (by omega) (by omega) (by rw [← hr, m_skip_s, if_pos hxn, if_pos hbl]) hP hD hS (lv_sub hl [0, 2, 3] rfl)
set_option maxHeartbeats 4000000 in
set_option maxRecDepth 100000 in
/-- skip(i) -/
theorem c_Model_skip (l : Launch) (dC : Nat → ClassId) (dI : Nat → Nat → Nat) (cB cI cL cZ cC cO : ClassId) {qm q_text : Nat}{f0 f2 f4 f5 f6 f7 f8 f9 f10 f11 f12 f13 f14 f15 f16 f17 f18 f19 f20 f21 f22 f23 f24 f25 f26 f27 f28 f29 f30 f31 f32 f33 f34 f35 f36 f37 f38 f39 f40 f41 f42 f43 f44 f45 f46 f47 f48 f49 f50 f51 f52 f53 f54 f55 f56 f57 f58 f59 f60 f61 f62 f63 f64 f65 f66 f67 f68 f69 f70 : Value} (ft : Nat → Int32) (n i : Nat) (sz : Nat) (hn : n ≤ 2000) (hi : i ≤ n + 2) : Met l y_Model_skip w_Model_skip ({ frames := 1, cells := 0, slots := 0, locals := 30 }) (va_Pc [.ref qm, .int (nI i)] (wB (dC, dI) cl [(cB, .byte), (cI, .int), (cL, .long), (cZ, .boolean), (cC, .char), (cO, .object "java/lang/Object")] sz [(qm, .inr (13, [f0, .ref q_text, f2, .int (nI n), f4, f5, f6, f7, f8, f9, f10, f11, f12, f13, f14, f15, f16, f17, f18, f19, f20, f21, f22, f23, f24, f25, f26, f27, f28, f29, f30, f31, f32, f33, f34, f35, f36, f37, f38, f39, f40, f41, f42, f43, f44, f45, f46, f47, f48, f49, f50, f51, f52, f53, f54, f55, f56, f57, f58, f59, f60, f61, f62, f63, f64, f65, f66, f67, f68, f69, f70])), (q_text, .inl (cI, 2000, .inl ft))])) (va_Qi (fun (r : Int32) (u : Unit) => r = m_skip ft n n i) (fun _ t => wA (dC, dI) cl [(cB, .byte), (cI, .int), (cL, .long), (cZ, .boolean), (cC, .char), (cO, .object "java/lang/Object")] (va_A [(qm, .inr (13, [f0, .ref q_text, f2, .int (nI n), f4, f5, f6, f7, f8, f9, f10, f11, f12, f13, f14, f15, f16, f17, f18, f19, f20, f21, f22, f23, f24, f25, f26, f27, f28, f29, f30, f31, f32, f33, f34, f35, f36, f37, f38, f39, f40, f41, f42, f43, f44, f45, f46, f47, f48, f49, f50, f51, f52, f53, f54, f55, f56, f57, f58, f59, f60, f61, f62, f63, f64, f65, f66, f67, f68, f69, f70])), (q_text, .inl (cI, 2000, .inl ft))] sz) [(qm, .inr (13, [f0, .ref q_text, f2, .int (nI n), f4, f5, f6, f7, f8, f9, f10, f11, f12, f13, f14, f15, f16, f17, f18, f19, f20, f21, f22, f23, f24, f25, f26, f27, f28, f29, f30, f31, f32, f33, f34, f35, f36, f37, f38, f39, f40, f41, f42, f43, f44, f45, f46, f47, f48, f49, f50, f51, f52, f53, f54, f55, f56, f57, f58, f59, f60, f61, f62, f63, f64, f65, f66, f67, f68, f69, f70])), (q_text, .inl (cI, 2000, .inl ft))] t) (va_A [(qm, .inr (13, [f0, .ref q_text, f2, .int (nI n), f4, f5, f6, f7, f8, f9, f10, f11, f12, f13, f14, f15, f16, f17, f18, f19, f20, f21, f22, f23, f24, f25, f26, f27, f28, f29, f30, f31, f32, f33, f34, f35, f36, f37, f38, f39, f40, f41, f42, f43, f44, f45, f46, f47, f48, f49, f50, f51, f52, f53, f54, f55, f56, f57, f58, f59, f60, f61, f62, f63, f64, f65, f66, f67, f68, f69, f70])), (q_text, .inl (cI, 2000, .inl ft))] sz)) 0 0 (va_A [(qm, .inr (13, [f0, .ref q_text, f2, .int (nI n), f4, f5, f6, f7, f8, f9, f10, f11, f12, f13, f14, f15, f16, f17, f18, f19, f20, f21, f22, f23, f24, f25, f26, f27, f28, f29, f30, f31, f32, f33, f34, f35, f36, f37, f38, f39, f40, f41, f42, f43, f44, f45, f46, f47, f48, f49, f50, f51, f52, f53, f54, f55, f56, f57, f58, f59, f60, f61, f62, f63, f64, f65, f66, f67, f68, f69, f70])), (q_text, .inl (cI, 2000, .inl ft))] sz) := by
  refine Met.ofW (cc := b_Model_skip) (maxL := 5) (ret := (some ClassFile.FieldType.int)) (by decide) rfl ?_
  intro p e s m args below meth c s₁ B hml hv
  obtain ⟨rfl, hsz, hP, hK, hD0, hF⟩ := hv
  have hx := B.exec
  have hb := B.bytes
  have hr := B.returns
  have hts := atoms_spec (ws := w_Model_skip) B.pre
  have hts : ∀ w ∈ tb, w.before _ s = true := fun w h => hts w (List.mem_cons_of_mem _ h)
  have hown : s.vm.findClass R_Model = some m.cls := findClass_of_methodNamed B.named
  have hlocks := B.notSynchronized
  subst hsz
  have hD := hD0.self (sz := s.heap.size)
  generalize hAe : va_A [(qm, .inr (13, [f0, .ref q_text, f2, .int (nI n), f4, f5, f6, f7, f8, f9, f10, f11, f12, f13, f14, f15, f16, f17, f18, f19, f20, f21, f22, f23, f24, f25, f26, f27, f28, f29, f30, f31, f32, f33, f34, f35, f36, f37, f38, f39, f40, f41, f42, f43, f44, f45, f46, f47, f48, f49, f50, f51, f52, f53, f54, f55, f56, f57, f58, f59, f60, f61, f62, f63, f64, f65, f66, f67, f68, f69, f70])), (q_text, .inl (cI, 2000, .inl ft))] s.heap.size = A at hD hF ⊢
  have hA : ∀ q : Nat, s.heap.size ≤ q → A q := fun q h => by rw [← hAe]; exact Or.inr h
  have hS : va_S A s.heap s.heap [] := va_S.rf
  have hP : va_P (dC, dI) cl [(qm, .inr (13, [f0, .ref q_text, f2, .int (nI n), f4, f5, f6, f7, f8, f9, f10, f11, f12, f13, f14, f15, f16, f17, f18, f19, f20, f21, f22, f23, f24, f25, f26, f27, f28, f29, f30, f31, f32, f33, f34, f35, f36, f37, f38, f39, f40, f41, f42, f43, f44, f45, f46, f47, f48, f49, f50, f51, f52, f53, f54, f55, f56, f57, f58, f59, f60, f61, f62, f63, f64, f65, f66, f67, f68, f69, f70])), (q_text, .inl (cI, 2000, .inl ft))] s.heap := hP
  have hl := lv_entry ([.ref qm, .int (nI i)]) (n := 5) (Nat.le_of_ble_eq_true rfl)
  rw [lg_entry_eq]
  generalize (lg_sl ([.ref qm, .int (nI i)]) ++ List.replicate (5 - (lg_sl ([.ref qm, .int (nI i)])).length) Slot.unset).toArray = ls at hl ⊢
  have hl : lv_has ls 5 [(0, .ref qm), (1, .int (nI i))] := hl
  refine lv_iload_n hx hb d_Model_skip_0 rfl (lv_at hl 1 rfl) ?_
  refine lv_istore_n (lv' := [(2, .int (nI i)), (0, .ref qm), (1, .int (nI i))]) hx hb d_Model_skip_1 rfl hl (by decide) rfl (fun ls hl => ?_)
  refine lp_Model_skip (i0 := i) (r := m_skip ft n n i) hn hx hb hml hown hts hA hF hK (fun H locs ls hP hD hS hl => ?_) (fun H locs ls hP hD hS hl => ?_) (fun H locs ls hP hD hS hl => ?_) (n + 3) n i _ _ ls (by omega) hi (by omega) rfl hP hD hS (lv_sub hl [0, 1, 2] rfl)
  · exact wr_i hx hb hr hlocks () rfl hK hP hD hS d_Model_skip_171
  · exact wr_i hx hb hr hlocks () rfl hK hP hD hS d_Model_skip_181
  · exact wr_i hx hb hr hlocks () rfl hK hP hD hS d_Model_skip_186
