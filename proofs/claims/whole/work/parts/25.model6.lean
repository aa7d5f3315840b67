theorem m_ctok_in {ft : Nat → Int32} {n : Nat} {cw : Nat → Int32} {RR i tn : Nat} {tk ta ts : Nat → Nat} {tv : Nat → Int32} (hi : i < n) : (∃ (e : Nat) (S' : TS), m_ctok ft n cw RR i (tn, tk, ta, ts, tv) = (some e, S') ∧ e ≤ n ∧ S'.1 = tn + 1) ∨ m_ctok ft n cw RR i (tn, tk, ta, ts, tv) = (none, (tn, tk, ta, ts, tv)) := by
  unfold m_ctok
  split
  · unfold m_wtok
    split
    · exact Or.inl ⟨_, _, rfl, by have := m_wend_le ft (n - i) i; omega, rfl⟩
    · exact Or.inr rfl
  split
  · by_cases h : m_nok ft n i
    · rw [m_ntok_t h]
      exact Or.inl ⟨_, _, rfl, (m_num_in ft n i 3 i (nI 0) (by omega)).2, rfl⟩
    · rw [m_ntok_f h]; exact Or.inr rfl
  split
  · exact Or.inl ⟨_, _, rfl, by omega, rfl⟩
  split
  · rename_i q
    have := m_at_in q.2 (by decide)
    exact Or.inl ⟨_, _, rfl, by omega, rfl⟩
  · exact Or.inr rfl
def m_sk (n : Nat) (x : Int32) : Prop := (∃ y, y ≤ n + 2 ∧ x = nI y) ∨ (∃ z, z < n ∧ x = (-2) - nI z)
theorem m_skip_in (ft : Nat → Int32) (n : Nat) : ∀ k i, i ≤ n + 2 → m_sk n (m_skip ft n k i)
  | 0, i, h => Or.inl ⟨i, h, rfl⟩
  | k + 1, i, h => by
    rw [m_skip_s]
    split
    · rename_i hi
      split
      · exact m_skip_in ft n k _ (by omega)
      split
      · exact m_skip_in ft n k _ (by have := tx_line_le ft (n - i) i; omega)
      split
      · rename_i q
        have := m_at_in q.2 (by decide)
        split
        · exact Or.inr ⟨i, hi, rfl⟩
        · exact m_skip_in ft n k _ (by have := m_com_le ft n (n - (i + 2)) (i + 2); omega)
      · exact Or.inl ⟨i, h, rfl⟩
    · exact Or.inl ⟨i, h, rfl⟩
theorem m_m2 (z : Nat) : (-2 : Int32) - ((-2) - nI z) = nI z := by
  apply Int32.toBitVec_inj.mp
  simp only [Int32.toBitVec_sub]
  generalize (nI z).toBitVec = w
  generalize (-2 : Int32).toBitVec = v
  bv_omega
theorem m_m2_neg {n z : Nat} (hn : n ≤ 2000) (hz : z < n) : ((-2 : Int32) - nI z) < 0 := by
  rw [show (-2 : Int32) - nI z = nI 0 - nI (z + 2) from by
    apply Int32.toBitVec_inj.mp
    rw [← nI_add]
    simp only [Int32.toBitVec_sub, Int32.toBitVec_add]
    show (-2#32 : BitVec 32) - (nI z).toBitVec = 0#32 - ((nI z).toBitVec + 2#32)
    generalize (nI z).toBitVec = w
    rw [BitVec.add_comm, BitVec.sub_eq_add_neg, BitVec.sub_eq_add_neg, BitVec.neg_add, BitVec.zero_add, BitVec.sub_eq_add_neg]]
  exact pk_sneg (by omega) (by omega)
theorem m_pos {n : Nat} {x : Int32} (hn : n ≤ 2000) (h : m_sk n x) (h0 : 0 ≤ x) : ∃ y, y ≤ n + 2 ∧ x = nI y := by
  rcases h with h | ⟨z, hz, rfl⟩
  · exact h
  · exact absurd (m_m2_neg hn hz) (Int32.not_lt.mpr h0)
theorem m_neg {n : Nat} {x : Int32} (hn : n ≤ 2000) (h : m_sk n x) (h0 : ¬ 0 ≤ x) : ∃ z, z < n ∧ x = (-2) - nI z := by
  rcases h with ⟨y, hy, rfl⟩ | h
  · exact absurd (nI_pos' (by omega)) h0
  · exact h
noncomputable def m_tkz (ft : Nat → Int32) (n : Nat) (cw : Nat → Int32) (RR : Nat) : Nat → Int32 → TS → TS
  | 0, _, S => S
  | f + 1, x, S => if x < 0 then m_tok S 6 ((-2) - x).toNatClampNeg ((-2) - x).toNatClampNeg (nI 0) else if n ≤ x.toNatClampNeg then m_tok S 0 n n (nI 0) else match m_ctok ft n cw RR x.toNatClampNeg S with
    | (none, _) => m_tok S 6 x.toNatClampNeg x.toNatClampNeg (nI 0)
    | (some e, S') => if 1000 < S'.1 then (S'.1, va_up S'.2.1 1000 7, S'.2.2) else m_tkz ft n cw RR f (m_skip ft n n e) S'
theorem m_tkz_n {ft : Nat → Int32} {n : Nat} {cw : Nat → Int32} {RR f z : Nat} {S : TS} (hn : n ≤ 2000) (hz : z < n) : m_tkz ft n cw RR (f + 1) ((-2) - nI z) S = m_tok S 6 z z (nI 0) := by
  show (if (-2 : Int32) - nI z < 0 then _ else _) = _
  rw [if_pos (m_m2_neg hn hz), m_m2, nI_clamp (by omega)]
theorem m_tkz_e {ft : Nat → Int32} {n : Nat} {cw : Nat → Int32} {RR f y : Nat} {S : TS} (hn : n ≤ 2000) (hy : y ≤ n + 2) (h : n ≤ y) : m_tkz ft n cw RR (f + 1) (nI y) S = m_tok S 0 n n (nI 0) := by
  show (if nI y < 0 then _ else _) = _
  rw [if_neg (nI_pos (by omega)), nI_clamp (by omega), if_pos h]
theorem m_tkz_b {ft : Nat → Int32} {n : Nat} {cw : Nat → Int32} {RR f y : Nat} {S S' : TS} (hn : n ≤ 2000) (h : y < n) (hc : m_ctok ft n cw RR y S = (none, S')) : m_tkz ft n cw RR (f + 1) (nI y) S = m_tok S 6 y y (nI 0) := by
  show (if nI y < 0 then _ else _) = _
  rw [if_neg (nI_pos (by omega)), nI_clamp (by omega), if_neg (by omega), hc]
theorem m_tkz_o {ft : Nat → Int32} {n : Nat} {cw : Nat → Int32} {RR f y e : Nat} {S S' : TS} (hn : n ≤ 2000) (h : y < n) (hc : m_ctok ft n cw RR y S = (some e, S')) (h1 : 1000 < S'.1) : m_tkz ft n cw RR (f + 1) (nI y) S = (S'.1, va_up S'.2.1 1000 7, S'.2.2) := by
  show (if nI y < 0 then _ else _) = _
  rw [if_neg (nI_pos (by omega)), nI_clamp (by omega), if_neg (by omega), hc]
  exact if_pos h1
theorem m_tkz_m {ft : Nat → Int32} {n : Nat} {cw : Nat → Int32} {RR f y e : Nat} {S S' : TS} (hn : n ≤ 2000) (h : y < n) (hc : m_ctok ft n cw RR y S = (some e, S')) (h1 : ¬ 1000 < S'.1) : m_tkz ft n cw RR (f + 1) (nI y) S = m_tkz ft n cw RR f (m_skip ft n n e) S' := by
  show (if nI y < 0 then _ else _) = _
  rw [if_neg (nI_pos (by omega)), nI_clamp (by omega), if_neg (by omega), hc]
  exact if_neg h1
theorem d_Model_tokenize_0 : decode b_Model_tokenize 0 = .ok (.aload_n 0, 1) := by decide +kernel
theorem d_Model_tokenize_1 : decode b_Model_tokenize 1 = .ok (.iconst 0, 1) := by decide +kernel
theorem d_Model_tokenize_2 : decode b_Model_tokenize 2 = .ok (.putfield 171, 3) := by decide +kernel
theorem d_Model_tokenize_5 : decode b_Model_tokenize 5 = .ok (.aload_n 0, 1) := by decide +kernel
theorem d_Model_tokenize_6 : decode b_Model_tokenize 6 = .ok (.iconst 0, 1) := by decide +kernel
theorem d_Model_tokenize_7 : decode b_Model_tokenize 7 = .ok (.putfield 178, 3) := by decide +kernel
theorem d_Model_tokenize_10 : decode b_Model_tokenize 10 = .ok (.aload_n 0, 1) := by decide +kernel
theorem d_Model_tokenize_11 : decode b_Model_tokenize 11 = .ok (.iconst 0, 1) := by decide +kernel
theorem d_Model_tokenize_12 : decode b_Model_tokenize 12 = .ok (.invokevirtual 181, 3) := by decide +kernel
theorem d_Model_tokenize_15 : decode b_Model_tokenize 15 = .ok (.istore_n 2, 1) := by decide +kernel
theorem d_Model_tokenize_16 : decode b_Model_tokenize 16 = .ok (.iconst 1, 1) := by decide +kernel
theorem d_Model_tokenize_17 : decode b_Model_tokenize 17 = .ok (.istore_n 3, 1) := by decide +kernel
theorem d_Model_tokenize_18 : decode b_Model_tokenize 18 = .ok (.iload_n 3, 1) := by decide +kernel
theorem d_Model_tokenize_19 : decode b_Model_tokenize 19 = .ok (.ifCond .eq 111, 3) := by decide +kernel
theorem d_Model_tokenize_22 : decode b_Model_tokenize 22 = .ok (.iload_n 2, 1) := by decide +kernel
theorem d_Model_tokenize_23 : decode b_Model_tokenize 23 = .ok (.ifCond .ge 23, 3) := by decide +kernel
theorem d_Model_tokenize_26 : decode b_Model_tokenize 26 = .ok (.aload_n 0, 1) := by decide +kernel
theorem d_Model_tokenize_27 : decode b_Model_tokenize 27 = .ok (.bipush 6, 2) := by decide +kernel
theorem d_Model_tokenize_29 : decode b_Model_tokenize 29 = .ok (.bipush (-2), 2) := by decide +kernel
theorem d_Model_tokenize_31 : decode b_Model_tokenize 31 = .ok (.iload_n 2, 1) := by decide +kernel
theorem d_Model_tokenize_32 : decode b_Model_tokenize 32 = .ok (.isub, 1) := by decide +kernel
theorem d_Model_tokenize_33 : decode b_Model_tokenize 33 = .ok (.bipush (-2), 2) := by decide +kernel
theorem d_Model_tokenize_35 : decode b_Model_tokenize 35 = .ok (.iload_n 2, 1) := by decide +kernel
theorem d_Model_tokenize_36 : decode b_Model_tokenize 36 = .ok (.isub, 1) := by decide +kernel
theorem d_Model_tokenize_37 : decode b_Model_tokenize 37 = .ok (.iconst 0, 1) := by decide +kernel
theorem d_Model_tokenize_38 : decode b_Model_tokenize 38 = .ok (.invokevirtual 184, 3) := by decide +kernel
theorem d_Model_tokenize_41 : decode b_Model_tokenize 41 = .ok (.iconst 0, 1) := by decide +kernel
theorem d_Model_tokenize_42 : decode b_Model_tokenize 42 = .ok (.istore_n 3, 1) := by decide +kernel
theorem d_Model_tokenize_43 : decode b_Model_tokenize 43 = .ok (.goto (-25), 3) := by decide +kernel
theorem d_Model_tokenize_46 : decode b_Model_tokenize 46 = .ok (.iload_n 2, 1) := by decide +kernel
theorem d_Model_tokenize_47 : decode b_Model_tokenize 47 = .ok (.aload_n 0, 1) := by decide +kernel
theorem d_Model_tokenize_48 : decode b_Model_tokenize 48 = .ok (.getfield 161, 3) := by decide +kernel
theorem d_Model_tokenize_51 : decode b_Model_tokenize 51 = .ok (.if_icmp .lt 22, 3) := by decide +kernel
theorem d_Model_tokenize_54 : decode b_Model_tokenize 54 = .ok (.aload_n 0, 1) := by decide +kernel
theorem d_Model_tokenize_55 : decode b_Model_tokenize 55 = .ok (.iconst 0, 1) := by decide +kernel
theorem d_Model_tokenize_56 : decode b_Model_tokenize 56 = .ok (.aload_n 0, 1) := by decide +kernel
theorem d_Model_tokenize_57 : decode b_Model_tokenize 57 = .ok (.getfield 161, 3) := by decide +kernel
theorem d_Model_tokenize_60 : decode b_Model_tokenize 60 = .ok (.aload_n 0, 1) := by decide +kernel
theorem d_Model_tokenize_61 : decode b_Model_tokenize 61 = .ok (.getfield 161, 3) := by decide +kernel
theorem d_Model_tokenize_64 : decode b_Model_tokenize 64 = .ok (.iconst 0, 1) := by decide +kernel
theorem d_Model_tokenize_65 : decode b_Model_tokenize 65 = .ok (.invokevirtual 184, 3) := by decide +kernel
theorem d_Model_tokenize_68 : decode b_Model_tokenize 68 = .ok (.iconst 0, 1) := by decide +kernel
theorem d_Model_tokenize_69 : decode b_Model_tokenize 69 = .ok (.istore_n 3, 1) := by decide +kernel
theorem d_Model_tokenize_70 : decode b_Model_tokenize 70 = .ok (.goto (-52), 3) := by decide +kernel
theorem d_Model_tokenize_73 : decode b_Model_tokenize 73 = .ok (.aload_n 0, 1) := by decide +kernel
theorem d_Model_tokenize_74 : decode b_Model_tokenize 74 = .ok (.iload_n 2, 1) := by decide +kernel
theorem d_Model_tokenize_75 : decode b_Model_tokenize 75 = .ok (.invokevirtual 188, 3) := by decide +kernel
theorem d_Model_tokenize_78 : decode b_Model_tokenize 78 = .ok (.istore 4, 2) := by decide +kernel
theorem d_Model_tokenize_80 : decode b_Model_tokenize 80 = .ok (.iload 4, 2) := by decide +kernel
theorem d_Model_tokenize_82 : decode b_Model_tokenize 82 = .ok (.ifCond .ge 17, 3) := by decide +kernel
theorem d_Model_tokenize_85 : decode b_Model_tokenize 85 = .ok (.aload_n 0, 1) := by decide +kernel
theorem d_Model_tokenize_86 : decode b_Model_tokenize 86 = .ok (.bipush 6, 2) := by decide +kernel
theorem d_Model_tokenize_88 : decode b_Model_tokenize 88 = .ok (.iload_n 2, 1) := by decide +kernel
theorem d_Model_tokenize_89 : decode b_Model_tokenize 89 = .ok (.iload_n 2, 1) := by decide +kernel
theorem d_Model_tokenize_90 : decode b_Model_tokenize 90 = .ok (.iconst 0, 1) := by decide +kernel
theorem d_Model_tokenize_91 : decode b_Model_tokenize 91 = .ok (.invokevirtual 184, 3) := by decide +kernel
theorem d_Model_tokenize_94 : decode b_Model_tokenize 94 = .ok (.iconst 0, 1) := by decide +kernel
theorem d_Model_tokenize_95 : decode b_Model_tokenize 95 = .ok (.istore_n 3, 1) := by decide +kernel
theorem d_Model_tokenize_96 : decode b_Model_tokenize 96 = .ok (.goto 31, 3) := by decide +kernel
theorem d_Model_tokenize_99 : decode b_Model_tokenize 99 = .ok (.aload_n 0, 1) := by decide +kernel
theorem d_Model_tokenize_100 : decode b_Model_tokenize 100 = .ok (.getfield 171, 3) := by decide +kernel
theorem d_Model_tokenize_103 : decode b_Model_tokenize 103 = .ok (.iload_n 1, 1) := by decide +kernel
theorem d_Model_tokenize_104 : decode b_Model_tokenize 104 = .ok (.if_icmp .le 16, 3) := by decide +kernel
theorem d_Model_tokenize_107 : decode b_Model_tokenize 107 = .ok (.aload_n 0, 1) := by decide +kernel
theorem d_Model_tokenize_108 : decode b_Model_tokenize 108 = .ok (.getfield 21, 3) := by decide +kernel
theorem d_Model_tokenize_111 : decode b_Model_tokenize 111 = .ok (.iload_n 1, 1) := by decide +kernel
theorem d_Model_tokenize_112 : decode b_Model_tokenize 112 = .ok (.bipush 7, 2) := by decide +kernel
theorem d_Model_tokenize_114 : decode b_Model_tokenize 114 = .ok (.iastore, 1) := by decide +kernel
theorem d_Model_tokenize_115 : decode b_Model_tokenize 115 = .ok (.iconst 0, 1) := by decide +kernel
theorem d_Model_tokenize_116 : decode b_Model_tokenize 116 = .ok (.istore_n 3, 1) := by decide +kernel
theorem d_Model_tokenize_117 : decode b_Model_tokenize 117 = .ok (.goto 10, 3) := by decide +kernel
theorem d_Model_tokenize_120 : decode b_Model_tokenize 120 = .ok (.aload_n 0, 1) := by decide +kernel
theorem d_Model_tokenize_121 : decode b_Model_tokenize 121 = .ok (.iload 4, 2) := by decide +kernel
theorem d_Model_tokenize_123 : decode b_Model_tokenize 123 = .ok (.invokevirtual 181, 3) := by decide +kernel
theorem d_Model_tokenize_126 : decode b_Model_tokenize 126 = .ok (.istore_n 2, 1) := by decide +kernel
theorem d_Model_tokenize_127 : decode b_Model_tokenize 127 = .ok (.goto (-109), 3) := by decide +kernel
theorem d_Model_tokenize_130 : decode b_Model_tokenize 130 = .ok (.return_, 1) := by decide +kernel
set_option maxHeartbeats 4000000 in
set_option maxRecDepth 100000 in
theorem lp_Model_tokenize {p : Program} {l : Launch} {e : Env} {s : State} {m : MethodId} {args : Array Value} {below : List Frame} {meth : Method} {c : Code} {Q : State → Prop} {A : Nat → Prop} {dC : Nat → ClassId} {dI : Nat → Nat → Nat} {cB cI cL cZ cC cO : ClassId} {qr : Nat}{qm q_text q_tokKind q_tokAt q_tokSize q_tokValue : Nat}{f2 f4 f5 f6 f13 f14 f15 f16 f17 f18 f19 f20 f21 f22 f23 f24 f25 f26 f27 f28 f29 f30 f31 f32 f33 f34 f35 f36 f37 f38 f39 f40 f41 f42 f43 f44 f45 f46 f47 f48 f49 f50 f51 f52 f53 f54 f55 f56 f57 f58 f59 f60 f61 f62 f63 f64 f65 f66 f67 f68 f69 f70 : Value} {ft cw : Nat → Int32} {n RR : Nat} {F : TS} (hn : n ≤ 2000) (hR : RR < 1000) (hR0 : 0 < RR) (hRl : cw (RR - 1) = nI 32) (hx : p.tables.exec = Jvm.exec) (hb : c.code = b_Model_tokenize) (hml : c.maxLocals = 5) (hown : s.vm.findClass R_Model = some m.cls) (hts : ∀ w ∈ tb, w.before args s = true) (hA : ∀ q, s.heap.size ≤ q → A q) (hF : stF A s) (hK : va_K (dC, dI) cl [(cB, .byte), (cI, .int), (cL, .long), (cZ, .boolean), (cC, .char), (cO, .object "java/lang/Object")] s)
    (kx : ∀  (H : Heap) (locs : List Loc) (ls : Array Slot), va_P (dC, dI) cl [(qm, .inr (13, [.ref qr, .ref q_text, f2, .int (nI n), f4, f5, f6, .ref q_tokKind, .ref q_tokAt, .ref q_tokSize, .ref q_tokValue, .int (nI F.1), .int (nI 0), f13, f14, f15, f16, f17, f18, f19, f20, f21, f22, f23, f24, f25, f26, f27, f28, f29, f30, f31, f32, f33, f34, f35, f36, f37, f38, f39, f40, f41, f42, f43, f44, f45, f46, f47, f48, f49, f50, f51, f52, f53, f54, f55, f56, f57, f58, f59, f60, f61, f62, f63, f64, f65, f66, f67, f68, f69, f70])), (q_text, .inl (cI, 2000, .inl ft)), (q_tokKind, .inl (cI, 1002, .inl (nF F.2.1))), (q_tokAt, .inl (cI, 1002, .inl (nF F.2.2.1))), (q_tokSize, .inl (cI, 1002, .inl (nF F.2.2.2.1))), (q_tokValue, .inl (cI, 1002, .inl F.2.2.2.2)), (qr, .inl (cC, RR, .inl cw))] H → va_D A [(qm, .inr (13, [.ref qr, .ref q_text, f2, .int (nI n), f4, f5, f6, .ref q_tokKind, .ref q_tokAt, .ref q_tokSize, .ref q_tokValue, .int (nI F.1), .int (nI 0), f13, f14, f15, f16, f17, f18, f19, f20, f21, f22, f23, f24, f25, f26, f27, f28, f29, f30, f31, f32, f33, f34, f35, f36, f37, f38, f39, f40, f41, f42, f43, f44, f45, f46, f47, f48, f49, f50, f51, f52, f53, f54, f55, f56, f57, f58, f59, f60, f61, f62, f63, f64, f65, f66, f67, f68, f69, f70])), (q_text, .inl (cI, 2000, .inl ft)), (q_tokKind, .inl (cI, 1002, .inl (nF F.2.1))), (q_tokAt, .inl (cI, 1002, .inl (nF F.2.2.1))), (q_tokSize, .inl (cI, 1002, .inl (nF F.2.2.2.1))), (q_tokValue, .inl (cI, 1002, .inl F.2.2.2.2)), (qr, .inl (cC, RR, .inl cw))] → va_S A s.heap H locs → lv_has ls 5 [(0, .ref qm), (1, .int (nI 1000))] → W p l e (headSpec w_Model_tokenize { frames := 4, cells := 0, slots := 0, locals := 120 }).room s m args below meth c H locs 0 0 Q (F0 m 130 ls [])) :
    ∀ (k : Nat) (x : Int32) (tn : Nat) (tk ta ts : Nat → Nat) (tv : Nat → Int32) (H : Heap) (locs : List Loc) (ls : Array Slot), tn + k = 1001 → tn ≤ 1000 → m_sk n x → m_tkz ft n cw RR k x (tn, tk, ta, ts, tv) = F → va_P (dC, dI) cl [(qm, .inr (13, [.ref qr, .ref q_text, f2, .int (nI n), f4, f5, f6, .ref q_tokKind, .ref q_tokAt, .ref q_tokSize, .ref q_tokValue, .int (nI tn), .int (nI 0), f13, f14, f15, f16, f17, f18, f19, f20, f21, f22, f23, f24, f25, f26, f27, f28, f29, f30, f31, f32, f33, f34, f35, f36, f37, f38, f39, f40, f41, f42, f43, f44, f45, f46, f47, f48, f49, f50, f51, f52, f53, f54, f55, f56, f57, f58, f59, f60, f61, f62, f63, f64, f65, f66, f67, f68, f69, f70])), (q_text, .inl (cI, 2000, .inl ft)), (q_tokKind, .inl (cI, 1002, .inl (nF tk))), (q_tokAt, .inl (cI, 1002, .inl (nF ta))), (q_tokSize, .inl (cI, 1002, .inl (nF ts))), (q_tokValue, .inl (cI, 1002, .inl tv)), (qr, .inl (cC, RR, .inl cw))] H → va_D A [(qm, .inr (13, [.ref qr, .ref q_text, f2, .int (nI n), f4, f5, f6, .ref q_tokKind, .ref q_tokAt, .ref q_tokSize, .ref q_tokValue, .int (nI tn), .int (nI 0), f13, f14, f15, f16, f17, f18, f19, f20, f21, f22, f23, f24, f25, f26, f27, f28, f29, f30, f31, f32, f33, f34, f35, f36, f37, f38, f39, f40, f41, f42, f43, f44, f45, f46, f47, f48, f49, f50, f51, f52, f53, f54, f55, f56, f57, f58, f59, f60, f61, f62, f63, f64, f65, f66, f67, f68, f69, f70])), (q_text, .inl (cI, 2000, .inl ft)), (q_tokKind, .inl (cI, 1002, .inl (nF tk))), (q_tokAt, .inl (cI, 1002, .inl (nF ta))), (q_tokSize, .inl (cI, 1002, .inl (nF ts))), (q_tokValue, .inl (cI, 1002, .inl tv)), (qr, .inl (cC, RR, .inl cw))] → va_S A s.heap H locs → lv_has ls 5 [(3, .int (nI 1)), (2, .int x), (0, .ref qm), (1, .int (nI 1000))] → W p l e (headSpec w_Model_tokenize { frames := 4, cells := 0, slots := 0, locals := 120 }).room s m args below meth c H locs 0 0 Q (F0 m 18 ls []) := by
  intro k
  induction k with
  | zero =>
    intro x tn tk ta ts tv H locs ls hk ht hk2 hr hP hD hS hl
    exfalso; omega
  | succ k ih =>
    intro x tn tk ta ts tv H locs ls hk ht hk2 hr hP hD hS hl
    refine lv_iload_n hx hb d_Model_tokenize_18 rfl (lv_at hl 0 rfl) ?_
    refine nv_if_eq (tgt := 130) hx hb (by omega) d_Model_tokenize_19 (by decide) (fun c_1 => ?_) (fun c_1 => ?_)
    · exact absurd c_1 (by decide)
    · refine lv_iload_n hx hb d_Model_tokenize_22 rfl (lv_at hl 1 rfl) ?_
      refine lv_if_ge (tgt := 46) hx hb d_Model_tokenize_23 (by decide) (fun c_2 => ?_) (fun c_2 => ?_)
      · obtain ⟨y, hy, rfl⟩ := m_pos hn hk2 c_2
        refine lv_iload_n hx hb d_Model_tokenize_46 rfl (lv_at hl 1 rfl) ?_
        refine lv_aload_n hx hb d_Model_tokenize_47 rfl (lv_at hl 2 rfl) ?_
        refine va_get (D := (dC, dI)) (ci := 13) (v := .int (nI n)) (C := R_Model) (T := F_Model) (N := 71) hx hb hts i_Model hown hK hP 0 rfl rfl 3 (by decide) (hts _ k_877) (fun _ h9 => h9) rfl d_Model_tokenize_48 ?_
        refine nv_icmp_lt (tgt := 73) hx hb (by omega) (by omega) d_Model_tokenize_51 (by decide) (fun c_3 => ?_) (fun c_3 => ?_)
        · refine lv_aload_n hx hb d_Model_tokenize_73 rfl (lv_at hl 2 rfl) ?_
          refine lv_iload_n hx hb d_Model_tokenize_74 rfl (lv_at hl 1 rfl) ?_
          have hyn : y < n := c_3
          refine wc_i (wc := [(qm, .inr (13, [.ref qr, .ref q_text, f2, .int (nI n), f4, f5, f6, .ref q_tokKind, .ref q_tokAt, .ref q_tokSize, .ref q_tokValue, .int (nI tn), .int (nI 0), f13, f14, f15, f16, f17, f18, f19, f20, f21, f22, f23, f24, f25, f26, f27, f28, f29, f30, f31, f32, f33, f34, f35, f36, f37, f38, f39, f40, f41, f42, f43, f44, f45, f46, f47, f48, f49, f50, f51, f52, f53, f54, f55, f56, f57, f58, f59, f60, f61, f62, f63, f64, f65, f66, f67, f68, f69, f70])), (q_text, .inl (cI, 2000, .inl ft)), (q_tokKind, .inl (cI, 1002, .inl (nF tk))), (q_tokAt, .inl (cI, 1002, .inl (nF ta))), (q_tokSize, .inl (cI, 1002, .inl (nF ts))), (q_tokValue, .inl (cI, 1002, .inl tv)), (qr, .inl (cC, RR, .inl cw))]) (wr := []) (va_runV (As := [.int (nI y)]) (rest := []) ⟨hx, hb, hml, hown, hts⟩ (c_Model_chipToken l dC dI cB cI cL cZ cC cO ft cw tv tk ta ts n RR y tn _ hn hyn (by omega) hR hR0 hRl) (cwV 1 hts (good_V k_1117 k_1119 s_Model_chipToken k_19 k_1120) rfl rfl rfl (by decide +kernel) ⟨Nat.le_of_ble_eq_true rfl, Nat.le_of_ble_eq_true rfl⟩) (wc_preV (k0 := 0) (ci := 13) (r := (R_Model, F_Model, 71)) hK hP hD hS hA hF [0, 1, 2, 3, 4, 5, 6] (by decide) rfl rfl rfl) rfl rfl hl.1 rfl (lv_room (Nat.le_of_ble_eq_true rfl)) d_Model_tokenize_75 ⟨Nat.le_of_ble_eq_true rfl, Nat.le_of_ble_eq_true rfl⟩) hP hD hS hA [0, 1, 2, 3, 4, 5, 6] [] rfl rfl (by decide) (by decide) (fun r_5 u H locs w_4 hP hD hS => ?_)
          have hP : va_P (dC, dI) cl [(qm, .inr (13, [.ref qr, .ref q_text, f2, .int (nI n), f4, f5, f6, .ref q_tokKind, .ref q_tokAt, .ref q_tokSize, .ref q_tokValue, .int (nI u.1), .int (nI 0), f13, f14, f15, f16, f17, f18, f19, f20, f21, f22, f23, f24, f25, f26, f27, f28, f29, f30, f31, f32, f33, f34, f35, f36, f37, f38, f39, f40, f41, f42, f43, f44, f45, f46, f47, f48, f49, f50, f51, f52, f53, f54, f55, f56, f57, f58, f59, f60, f61, f62, f63, f64, f65, f66, f67, f68, f69, f70])), (q_text, .inl (cI, 2000, .inl ft)), (q_tokKind, .inl (cI, 1002, .inl (nF u.2.1))), (q_tokAt, .inl (cI, 1002, .inl (nF u.2.2.1))), (q_tokSize, .inl (cI, 1002, .inl (nF u.2.2.2.1))), (q_tokValue, .inl (cI, 1002, .inl u.2.2.2.2)), (qr, .inl (cC, RR, .inl cw))] H := hP
          have hD : va_D A [(qm, .inr (13, [.ref qr, .ref q_text, f2, .int (nI n), f4, f5, f6, .ref q_tokKind, .ref q_tokAt, .ref q_tokSize, .ref q_tokValue, .int (nI u.1), .int (nI 0), f13, f14, f15, f16, f17, f18, f19, f20, f21, f22, f23, f24, f25, f26, f27, f28, f29, f30, f31, f32, f33, f34, f35, f36, f37, f38, f39, f40, f41, f42, f43, f44, f45, f46, f47, f48, f49, f50, f51, f52, f53, f54, f55, f56, f57, f58, f59, f60, f61, f62, f63, f64, f65, f66, f67, f68, f69, f70])), (q_text, .inl (cI, 2000, .inl ft)), (q_tokKind, .inl (cI, 1002, .inl (nF u.2.1))), (q_tokAt, .inl (cI, 1002, .inl (nF u.2.2.1))), (q_tokSize, .inl (cI, 1002, .inl (nF u.2.2.2.1))), (q_tokValue, .inl (cI, 1002, .inl u.2.2.2.2)), (qr, .inl (cC, RR, .inl cw))] := hD
          obtain ⟨rfl, rfl⟩ := w_4
          rcases m_ctok_in (cw := cw) (ft := ft) (n := n) (RR := RR) (i := y) (tn := tn) (tk := tk) (ta := ta) (ts := ts) (tv := tv) hyn with ⟨e, S', hq, he, hS1⟩ | hq
          · rw [hq] at hP hD ⊢
            have hP : va_P (dC, dI) cl [(qm, .inr (13, [.ref qr, .ref q_text, f2, .int (nI n), f4, f5, f6, .ref q_tokKind, .ref q_tokAt, .ref q_tokSize, .ref q_tokValue, .int (nI S'.1), .int (nI 0), f13, f14, f15, f16, f17, f18, f19, f20, f21, f22, f23, f24, f25, f26, f27, f28, f29, f30, f31, f32, f33, f34, f35, f36, f37, f38, f39, f40, f41, f42, f43, f44, f45, f46, f47, f48, f49, f50, f51, f52, f53, f54, f55, f56, f57, f58, f59, f60, f61, f62, f63, f64, f65, f66, f67, f68, f69, f70])), (q_text, .inl (cI, 2000, .inl ft)), (q_tokKind, .inl (cI, 1002, .inl (nF S'.2.1))), (q_tokAt, .inl (cI, 1002, .inl (nF S'.2.2.1))), (q_tokSize, .inl (cI, 1002, .inl (nF S'.2.2.2.1))), (q_tokValue, .inl (cI, 1002, .inl S'.2.2.2.2)), (qr, .inl (cC, RR, .inl cw))] H := hP
            have hD : va_D A [(qm, .inr (13, [.ref qr, .ref q_text, f2, .int (nI n), f4, f5, f6, .ref q_tokKind, .ref q_tokAt, .ref q_tokSize, .ref q_tokValue, .int (nI S'.1), .int (nI 0), f13, f14, f15, f16, f17, f18, f19, f20, f21, f22, f23, f24, f25, f26, f27, f28, f29, f30, f31, f32, f33, f34, f35, f36, f37, f38, f39, f40, f41, f42, f43, f44, f45, f46, f47, f48, f49, f50, f51, f52, f53, f54, f55, f56, f57, f58, f59, f60, f61, f62, f63, f64, f65, f66, f67, f68, f69, f70])), (q_text, .inl (cI, 2000, .inl ft)), (q_tokKind, .inl (cI, 1002, .inl (nF S'.2.1))), (q_tokAt, .inl (cI, 1002, .inl (nF S'.2.2.1))), (q_tokSize, .inl (cI, 1002, .inl (nF S'.2.2.2.1))), (q_tokValue, .inl (cI, 1002, .inl S'.2.2.2.2)), (qr, .inl (cC, RR, .inl cw))] := hD
            refine lv_istore (lv' := [(4, .int (nI e)), (3, .int (nI 1)), (2, .int (nI y)), (0, .ref qm), (1, .int (nI 1000))]) hx hb d_Model_tokenize_78 hl (by decide) rfl (fun ls hl => ?_)
            refine lv_iload hx hb d_Model_tokenize_80 (lv_at hl 0 rfl) ?_
            refine nv_if_ge (tgt := 99) hx hb (by omega) d_Model_tokenize_82 (by decide) ?_
            refine lv_aload_n hx hb d_Model_tokenize_99 rfl (lv_at hl 3 rfl) ?_
            refine va_get (D := (dC, dI)) (ci := 13) (v := .int (nI S'.1)) (C := R_Model) (T := F_Model) (N := 71) hx hb hts i_Model hown hK hP 0 rfl rfl 11 (by decide) (hts _ k_885) (fun _ h9 => h9) rfl d_Model_tokenize_100 ?_
            refine lv_iload_n hx hb d_Model_tokenize_103 rfl (lv_at hl 4 rfl) ?_
            refine nv_icmp_le (tgt := 120) hx hb (by omega) (by omega) d_Model_tokenize_104 (by decide) (fun c_7 => ?_) (fun c_7 => ?_)
            · refine lv_aload_n hx hb d_Model_tokenize_120 rfl (lv_at hl 3 rfl) ?_
              refine lv_iload hx hb d_Model_tokenize_121 (lv_at hl 0 rfl) ?_
              refine wc_i (wc := [(qm, .inr (13, [.ref qr, .ref q_text, f2, .int (nI n), f4, f5, f6, .ref q_tokKind, .ref q_tokAt, .ref q_tokSize, .ref q_tokValue, .int (nI S'.1), .int (nI 0), f13, f14, f15, f16, f17, f18, f19, f20, f21, f22, f23, f24, f25, f26, f27, f28, f29, f30, f31, f32, f33, f34, f35, f36, f37, f38, f39, f40, f41, f42, f43, f44, f45, f46, f47, f48, f49, f50, f51, f52, f53, f54, f55, f56, f57, f58, f59, f60, f61, f62, f63, f64, f65, f66, f67, f68, f69, f70])), (q_text, .inl (cI, 2000, .inl ft))]) (wr := [(q_tokKind, .inl (cI, 1002, .inl (nF S'.2.1))), (q_tokAt, .inl (cI, 1002, .inl (nF S'.2.2.1))), (q_tokSize, .inl (cI, 1002, .inl (nF S'.2.2.2.1))), (q_tokValue, .inl (cI, 1002, .inl S'.2.2.2.2)), (qr, .inl (cC, RR, .inl cw))]) (va_runV (As := [.int (nI e)]) (rest := []) ⟨hx, hb, hml, hown, hts⟩ (c_Model_skip l dC dI cB cI cL cZ cC cO ft n e _ hn (by omega)) (cwV 1 hts (good_V k_1105 k_1107 s_Model_skip k_19 k_1108) rfl rfl rfl (by decide +kernel) ⟨Nat.le_of_ble_eq_true rfl, Nat.le_of_ble_eq_true rfl⟩) (wc_preV (k0 := 0) (ci := 13) (r := (R_Model, F_Model, 71)) hK hP hD hS hA hF [0, 1] (by decide) rfl rfl rfl) rfl rfl hl.1 rfl (lv_room (Nat.le_of_ble_eq_true rfl)) d_Model_tokenize_123 ⟨Nat.le_of_ble_eq_true rfl, Nat.le_of_ble_eq_true rfl⟩) hP hD hS hA [0, 1] [2, 3, 4, 5, 6] rfl rfl (by decide) (by decide) (fun r_9 u H locs w_8 hP hD hS => ?_)
              have hP : va_P (dC, dI) cl [(q_tokKind, .inl (cI, 1002, .inl (nF S'.2.1))), (q_tokAt, .inl (cI, 1002, .inl (nF S'.2.2.1))), (q_tokSize, .inl (cI, 1002, .inl (nF S'.2.2.2.1))), (q_tokValue, .inl (cI, 1002, .inl S'.2.2.2.2)), (qr, .inl (cC, RR, .inl cw)), (qm, .inr (13, [.ref qr, .ref q_text, f2, .int (nI n), f4, f5, f6, .ref q_tokKind, .ref q_tokAt, .ref q_tokSize, .ref q_tokValue, .int (nI S'.1), .int (nI 0), f13, f14, f15, f16, f17, f18, f19, f20, f21, f22, f23, f24, f25, f26, f27, f28, f29, f30, f31, f32, f33, f34, f35, f36, f37, f38, f39, f40, f41, f42, f43, f44, f45, f46, f47, f48, f49, f50, f51, f52, f53, f54, f55, f56, f57, f58, f59, f60, f61, f62, f63, f64, f65, f66, f67, f68, f69, f70])), (q_text, .inl (cI, 2000, .inl ft))] H := hP
              have hD : va_D A [(q_tokKind, .inl (cI, 1002, .inl (nF S'.2.1))), (q_tokAt, .inl (cI, 1002, .inl (nF S'.2.2.1))), (q_tokSize, .inl (cI, 1002, .inl (nF S'.2.2.2.1))), (q_tokValue, .inl (cI, 1002, .inl S'.2.2.2.2)), (qr, .inl (cC, RR, .inl cw)), (qm, .inr (13, [.ref qr, .ref q_text, f2, .int (nI n), f4, f5, f6, .ref q_tokKind, .ref q_tokAt, .ref q_tokSize, .ref q_tokValue, .int (nI S'.1), .int (nI 0), f13, f14, f15, f16, f17, f18, f19, f20, f21, f22, f23, f24, f25, f26, f27, f28, f29, f30, f31, f32, f33, f34, f35, f36, f37, f38, f39, f40, f41, f42, f43, f44, f45, f46, f47, f48, f49, f50, f51, f52, f53, f54, f55, f56, f57, f58, f59, f60, f61, f62, f63, f64, f65, f66, f67, f68, f69, f70])), (q_text, .inl (cI, 2000, .inl ft))] := hD
              subst w_8
              refine lv_istore_n (lv' := [(2, .int (m_skip ft n n e)), (4, .int (nI e)), (3, .int (nI 1)), (0, .ref qm), (1, .int (nI 1000))]) hx hb d_Model_tokenize_126 rfl hl (by decide) rfl (fun ls hl => ?_)
              refine lv_goto (tgt := 18) hx hb d_Model_tokenize_127 (by decide) ?_
              exact ih (m_skip ft n n e) S'.1 S'.2.1 S'.2.2.1 S'.2.2.2.1 S'.2.2.2.2 H locs ls (by omega) (by omega) (m_skip_in ft n n e (by omega)) (by rw [← hr, m_tkz_m hn hyn hq (by omega)]) (hP.sub [5, 6, 0, 1, 2, 3, 4] rfl) (hD.sub [5, 6, 0, 1, 2, 3, 4] (by decide) rfl) hS (lv_sub hl [2, 0, 3, 4] rfl)
            · refine lv_aload_n hx hb d_Model_tokenize_107 rfl (lv_at hl 3 rfl) ?_
              refine va_get (D := (dC, dI)) (ci := 13) (v := .ref q_tokKind) (C := R_Model) (T := F_Model) (N := 71) hx hb hts i_Model hown hK hP 0 rfl rfl 7 (by decide) (hts _ k_881) (fun _ h9 => h9) rfl d_Model_tokenize_108 ?_
              refine lv_iload_n hx hb d_Model_tokenize_111 rfl (lv_at hl 4 rfl) ?_
              refine lv_bipush (v := nI 7) hx hb d_Model_tokenize_112 (by decide) ?_
              refine nv_iastN (x := 7) hx hb hK hP hD hS 2 1 rfl rfl (by omega) (by decide) d_Model_tokenize_114 (fun H locs hP hD hS => ?_)
              have hP : va_P (dC, dI) cl [(qm, .inr (13, [.ref qr, .ref q_text, f2, .int (nI n), f4, f5, f6, .ref q_tokKind, .ref q_tokAt, .ref q_tokSize, .ref q_tokValue, .int (nI S'.1), .int (nI 0), f13, f14, f15, f16, f17, f18, f19, f20, f21, f22, f23, f24, f25, f26, f27, f28, f29, f30, f31, f32, f33, f34, f35, f36, f37, f38, f39, f40, f41, f42, f43, f44, f45, f46, f47, f48, f49, f50, f51, f52, f53, f54, f55, f56, f57, f58, f59, f60, f61, f62, f63, f64, f65, f66, f67, f68, f69, f70])), (q_text, .inl (cI, 2000, .inl ft)), (q_tokKind, .inl (cI, 1002, .inl (nF (va_up S'.2.1 1000 7)))), (q_tokAt, .inl (cI, 1002, .inl (nF S'.2.2.1))), (q_tokSize, .inl (cI, 1002, .inl (nF S'.2.2.2.1))), (q_tokValue, .inl (cI, 1002, .inl S'.2.2.2.2)), (qr, .inl (cC, RR, .inl cw))] H := hP
              have hD : va_D A [(qm, .inr (13, [.ref qr, .ref q_text, f2, .int (nI n), f4, f5, f6, .ref q_tokKind, .ref q_tokAt, .ref q_tokSize, .ref q_tokValue, .int (nI S'.1), .int (nI 0), f13, f14, f15, f16, f17, f18, f19, f20, f21, f22, f23, f24, f25, f26, f27, f28, f29, f30, f31, f32, f33, f34, f35, f36, f37, f38, f39, f40, f41, f42, f43, f44, f45, f46, f47, f48, f49, f50, f51, f52, f53, f54, f55, f56, f57, f58, f59, f60, f61, f62, f63, f64, f65, f66, f67, f68, f69, f70])), (q_text, .inl (cI, 2000, .inl ft)), (q_tokKind, .inl (cI, 1002, .inl (nF (va_up S'.2.1 1000 7)))), (q_tokAt, .inl (cI, 1002, .inl (nF S'.2.2.1))), (q_tokSize, .inl (cI, 1002, .inl (nF S'.2.2.2.1))), (q_tokValue, .inl (cI, 1002, .inl S'.2.2.2.2)), (qr, .inl (cC, RR, .inl cw))] := hD
              refine lv_iconst (v := nI 0) hx hb d_Model_tokenize_115 (by decide) ?_
              refine lv_istore_n (lv' := [(3, .int (nI 0)), (4, .int (nI e)), (2, .int (nI y)), (0, .ref qm), (1, .int (nI 1000))]) hx hb d_Model_tokenize_116 rfl hl (by decide) rfl (fun ls hl => ?_)
              refine lv_goto (tgt := 127) hx hb d_Model_tokenize_117 (by decide) ?_
              refine lv_goto (tgt := 18) hx hb d_Model_tokenize_127 (by decide) ?_
              have hq : (S'.1, va_up S'.2.1 1000 7, S'.2.2) = F := by rw [← hr, m_tkz_o hn hyn hq (by omega)]
              subst hq
              refine lv_iload_n hx hb d_Model_tokenize_18 rfl (lv_at hl 0 rfl) ?_
              refine nv_if_eq (x := 0) (tgt := 130) hx hb (by omega) d_Model_tokenize_19 (by decide) (fun _ => ?_) (fun q => absurd rfl q)
              exact kx H locs ls hP hD hS (lv_sub hl [3, 4] rfl)
          · rw [hq] at hP hD ⊢
            have hP : va_P (dC, dI) cl [(qm, .inr (13, [.ref qr, .ref q_text, f2, .int (nI n), f4, f5, f6, .ref q_tokKind, .ref q_tokAt, .ref q_tokSize, .ref q_tokValue, .int (nI tn), .int (nI 0), f13, f14, f15, f16, f17, f18, f19, f20, f21, f22, f23, f24, f25, f26, f27, f28, f29, f30, f31, f32, f33, f34, f35, f36, f37, f38, f39, f40, f41, f42, f43, f44, f45, f46, f47, f48, f49, f50, f51, f52, f53, f54, f55, f56, f57, f58, f59, f60, f61, f62, f63, f64, f65, f66, f67, f68, f69, f70])), (q_text, .inl (cI, 2000, .inl ft)), (q_tokKind, .inl (cI, 1002, .inl (nF tk))), (q_tokAt, .inl (cI, 1002, .inl (nF ta))), (q_tokSize, .inl (cI, 1002, .inl (nF ts))), (q_tokValue, .inl (cI, 1002, .inl tv)), (qr, .inl (cC, RR, .inl cw))] H := hP
            have hD : va_D A [(qm, .inr (13, [.ref qr, .ref q_text, f2, .int (nI n), f4, f5, f6, .ref q_tokKind, .ref q_tokAt, .ref q_tokSize, .ref q_tokValue, .int (nI tn), .int (nI 0), f13, f14, f15, f16, f17, f18, f19, f20, f21, f22, f23, f24, f25, f26, f27, f28, f29, f30, f31, f32, f33, f34, f35, f36, f37, f38, f39, f40, f41, f42, f43, f44, f45, f46, f47, f48, f49, f50, f51, f52, f53, f54, f55, f56, f57, f58, f59, f60, f61, f62, f63, f64, f65, f66, f67, f68, f69, f70])), (q_text, .inl (cI, 2000, .inl ft)), (q_tokKind, .inl (cI, 1002, .inl (nF tk))), (q_tokAt, .inl (cI, 1002, .inl (nF ta))), (q_tokSize, .inl (cI, 1002, .inl (nF ts))), (q_tokValue, .inl (cI, 1002, .inl tv)), (qr, .inl (cC, RR, .inl cw))] := hD
            refine lv_istore (lv' := [(4, .int (-1)), (3, .int (nI 1)), (2, .int (nI y)), (0, .ref qm), (1, .int (nI 1000))]) hx hb d_Model_tokenize_78 hl (by decide) rfl (fun ls hl => ?_)
            refine lv_iload hx hb d_Model_tokenize_80 (lv_at hl 0 rfl) ?_
            refine lv_if_ge (tgt := 99) hx hb d_Model_tokenize_82 (by decide) (fun c_10 => ?_) (fun c_10 => ?_)
            · exact absurd c_10 (by decide)
            · refine lv_aload_n hx hb d_Model_tokenize_85 rfl (lv_at hl 3 rfl) ?_
              refine lv_bipush (v := nI 6) hx hb d_Model_tokenize_86 (by decide) ?_
              refine lv_iload_n hx hb d_Model_tokenize_88 rfl (lv_at hl 2 rfl) ?_
              refine lv_iload_n hx hb d_Model_tokenize_89 rfl (lv_at hl 2 rfl) ?_
              refine lv_iconst (v := nI 0) hx hb d_Model_tokenize_90 (by decide) ?_
              refine wc_v (wc := [(qm, .inr (13, [.ref qr, .ref q_text, f2, .int (nI n), f4, f5, f6, .ref q_tokKind, .ref q_tokAt, .ref q_tokSize, .ref q_tokValue, .int (nI tn), .int (nI 0), f13, f14, f15, f16, f17, f18, f19, f20, f21, f22, f23, f24, f25, f26, f27, f28, f29, f30, f31, f32, f33, f34, f35, f36, f37, f38, f39, f40, f41, f42, f43, f44, f45, f46, f47, f48, f49, f50, f51, f52, f53, f54, f55, f56, f57, f58, f59, f60, f61, f62, f63, f64, f65, f66, f67, f68, f69, f70])), (q_tokKind, .inl (cI, 1002, .inl (nF tk))), (q_tokAt, .inl (cI, 1002, .inl (nF ta))), (q_tokSize, .inl (cI, 1002, .inl (nF ts))), (q_tokValue, .inl (cI, 1002, .inl tv))]) (wr := [(q_text, .inl (cI, 2000, .inl ft)), (qr, .inl (cC, RR, .inl cw))]) (va_runV (As := [.int (nI 6), .int (nI y), .int (nI y), .int (nI 0)]) (rest := []) ⟨hx, hb, hml, hown, hts⟩ (c_Model_token l dC dI cB cI cL cZ cC cO tk ta ts tv tn 6 y y (nI 0) _ (by omega) (by omega)) (cwV 4 hts (good_V k_1113 k_1115 s_Model_token k_19 k_1116) rfl rfl rfl (by decide +kernel) ⟨Nat.le_of_ble_eq_true rfl, Nat.le_of_ble_eq_true rfl⟩) (wc_preV (k0 := 0) (ci := 13) (r := (R_Model, F_Model, 71)) hK hP hD hS hA hF [0, 2, 3, 4, 5] (by decide) rfl rfl rfl) rfl rfl hl.1 rfl (lv_room (Nat.le_of_ble_eq_true rfl)) d_Model_tokenize_91 ⟨Nat.le_of_ble_eq_true rfl, Nat.le_of_ble_eq_true rfl⟩) hP hD hS hA [0, 2, 3, 4, 5] [1, 6] rfl rfl (by decide) (by decide) (fun u H locs w_11 hP hD hS => ?_)
              have hP : va_P (dC, dI) cl [(q_text, .inl (cI, 2000, .inl ft)), (qr, .inl (cC, RR, .inl cw)), (qm, .inr (13, [.ref qr, .ref q_text, f2, .int (nI n), f4, f5, f6, .ref q_tokKind, .ref q_tokAt, .ref q_tokSize, .ref q_tokValue, .int (nI (tn + 1)), .int (nI 0), f13, f14, f15, f16, f17, f18, f19, f20, f21, f22, f23, f24, f25, f26, f27, f28, f29, f30, f31, f32, f33, f34, f35, f36, f37, f38, f39, f40, f41, f42, f43, f44, f45, f46, f47, f48, f49, f50, f51, f52, f53, f54, f55, f56, f57, f58, f59, f60, f61, f62, f63, f64, f65, f66, f67, f68, f69, f70])), (q_tokKind, .inl (cI, 1002, .inl (nF (va_up tk tn 6)))), (q_tokAt, .inl (cI, 1002, .inl (nF (va_up ta tn y)))), (q_tokSize, .inl (cI, 1002, .inl (nF (va_up ts tn (y - y))))), (q_tokValue, .inl (cI, 1002, .inl (upd tv tn (nI 0))))] H := hP
              have hD : va_D A [(q_text, .inl (cI, 2000, .inl ft)), (qr, .inl (cC, RR, .inl cw)), (qm, .inr (13, [.ref qr, .ref q_text, f2, .int (nI n), f4, f5, f6, .ref q_tokKind, .ref q_tokAt, .ref q_tokSize, .ref q_tokValue, .int (nI (tn + 1)), .int (nI 0), f13, f14, f15, f16, f17, f18, f19, f20, f21, f22, f23, f24, f25, f26, f27, f28, f29, f30, f31, f32, f33, f34, f35, f36, f37, f38, f39, f40, f41, f42, f43, f44, f45, f46, f47, f48, f49, f50, f51, f52, f53, f54, f55, f56, f57, f58, f59, f60, f61, f62, f63, f64, f65, f66, f67, f68, f69, f70])), (q_tokKind, .inl (cI, 1002, .inl (nF (va_up tk tn 6)))), (q_tokAt, .inl (cI, 1002, .inl (nF (va_up ta tn y)))), (q_tokSize, .inl (cI, 1002, .inl (nF (va_up ts tn (y - y))))), (q_tokValue, .inl (cI, 1002, .inl (upd tv tn (nI 0))))] := hD
              refine lv_iconst (v := nI 0) hx hb d_Model_tokenize_94 (by decide) ?_
              refine lv_istore_n (lv' := [(3, .int (nI 0)), (4, .int (-1)), (2, .int (nI y)), (0, .ref qm), (1, .int (nI 1000))]) hx hb d_Model_tokenize_95 rfl hl (by decide) rfl (fun ls hl => ?_)
              refine lv_goto (tgt := 127) hx hb d_Model_tokenize_96 (by decide) ?_
              refine lv_goto (tgt := 18) hx hb d_Model_tokenize_127 (by decide) ?_
              have hq : m_tok (tn, tk, ta, ts, tv) 6 y y (nI 0) = F := by rw [← hr, m_tkz_b hn hyn hq]
              subst hq
              refine lv_iload_n hx hb d_Model_tokenize_18 rfl (lv_at hl 0 rfl) ?_
              refine nv_if_eq (x := 0) (tgt := 130) hx hb (by omega) d_Model_tokenize_19 (by decide) (fun _ => ?_) (fun q => absurd rfl q)
              exact kx H locs ls (hP.sub [2, 0, 3, 4, 5, 6, 1] rfl) (hD.sub [2, 0, 3, 4, 5, 6, 1] (by decide) rfl) hS (lv_sub hl [3, 4] rfl)
        · refine lv_aload_n hx hb d_Model_tokenize_54 rfl (lv_at hl 2 rfl) ?_
          refine lv_iconst (v := nI 0) hx hb d_Model_tokenize_55 (by decide) ?_
          refine lv_aload_n hx hb d_Model_tokenize_56 rfl (lv_at hl 2 rfl) ?_
          refine va_get (D := (dC, dI)) (ci := 13) (v := .int (nI n)) (C := R_Model) (T := F_Model) (N := 71) hx hb hts i_Model hown hK hP 0 rfl rfl 3 (by decide) (hts _ k_877) (fun _ h9 => h9) rfl d_Model_tokenize_57 ?_
          refine lv_aload_n hx hb d_Model_tokenize_60 rfl (lv_at hl 2 rfl) ?_
          refine va_get (D := (dC, dI)) (ci := 13) (v := .int (nI n)) (C := R_Model) (T := F_Model) (N := 71) hx hb hts i_Model hown hK hP 0 rfl rfl 3 (by decide) (hts _ k_877) (fun _ h9 => h9) rfl d_Model_tokenize_61 ?_
          refine lv_iconst (v := nI 0) hx hb d_Model_tokenize_64 (by decide) ?_
          refine wc_v (wc := [(qm, .inr (13, [.ref qr, .ref q_text, f2, .int (nI n), f4, f5, f6, .ref q_tokKind, .ref q_tokAt, .ref q_tokSize, .ref q_tokValue, .int (nI tn), .int (nI 0), f13, f14, f15, f16, f17, f18, f19, f20, f21, f22, f23, f24, f25, f26, f27, f28, f29, f30, f31, f32, f33, f34, f35, f36, f37, f38, f39, f40, f41, f42, f43, f44, f45, f46, f47, f48, f49, f50, f51, f52, f53, f54, f55, f56, f57, f58, f59, f60, f61, f62, f63, f64, f65, f66, f67, f68, f69, f70])), (q_tokKind, .inl (cI, 1002, .inl (nF tk))), (q_tokAt, .inl (cI, 1002, .inl (nF ta))), (q_tokSize, .inl (cI, 1002, .inl (nF ts))), (q_tokValue, .inl (cI, 1002, .inl tv))]) (wr := [(q_text, .inl (cI, 2000, .inl ft)), (qr, .inl (cC, RR, .inl cw))]) (va_runV (As := [.int (nI 0), .int (nI n), .int (nI n), .int (nI 0)]) (rest := []) ⟨hx, hb, hml, hown, hts⟩ (c_Model_token l dC dI cB cI cL cZ cC cO tk ta ts tv tn 0 n n (nI 0) _ (by omega) (by omega)) (cwV 4 hts (good_V k_1113 k_1115 s_Model_token k_19 k_1116) rfl rfl rfl (by decide +kernel) ⟨Nat.le_of_ble_eq_true rfl, Nat.le_of_ble_eq_true rfl⟩) (wc_preV (k0 := 0) (ci := 13) (r := (R_Model, F_Model, 71)) hK hP hD hS hA hF [0, 2, 3, 4, 5] (by decide) rfl rfl rfl) rfl rfl hl.1 rfl (lv_room (Nat.le_of_ble_eq_true rfl)) d_Model_tokenize_65 ⟨Nat.le_of_ble_eq_true rfl, Nat.le_of_ble_eq_true rfl⟩) hP hD hS hA [0, 2, 3, 4, 5] [1, 6] rfl rfl (by decide) (by decide) (fun u H locs w_13 hP hD hS => ?_)
          have hP : va_P (dC, dI) cl [(q_text, .inl (cI, 2000, .inl ft)), (qr, .inl (cC, RR, .inl cw)), (qm, .inr (13, [.ref qr, .ref q_text, f2, .int (nI n), f4, f5, f6, .ref q_tokKind, .ref q_tokAt, .ref q_tokSize, .ref q_tokValue, .int (nI (tn + 1)), .int (nI 0), f13, f14, f15, f16, f17, f18, f19, f20, f21, f22, f23, f24, f25, f26, f27, f28, f29, f30, f31, f32, f33, f34, f35, f36, f37, f38, f39, f40, f41, f42, f43, f44, f45, f46, f47, f48, f49, f50, f51, f52, f53, f54, f55, f56, f57, f58, f59, f60, f61, f62, f63, f64, f65, f66, f67, f68, f69, f70])), (q_tokKind, .inl (cI, 1002, .inl (nF (va_up tk tn 0)))), (q_tokAt, .inl (cI, 1002, .inl (nF (va_up ta tn n)))), (q_tokSize, .inl (cI, 1002, .inl (nF (va_up ts tn (n - n))))), (q_tokValue, .inl (cI, 1002, .inl (upd tv tn (nI 0))))] H := hP
          have hD : va_D A [(q_text, .inl (cI, 2000, .inl ft)), (qr, .inl (cC, RR, .inl cw)), (qm, .inr (13, [.ref qr, .ref q_text, f2, .int (nI n), f4, f5, f6, .ref q_tokKind, .ref q_tokAt, .ref q_tokSize, .ref q_tokValue, .int (nI (tn + 1)), .int (nI 0), f13, f14, f15, f16, f17, f18, f19, f20, f21, f22, f23, f24, f25, f26, f27, f28, f29, f30, f31, f32, f33, f34, f35, f36, f37, f38, f39, f40, f41, f42, f43, f44, f45, f46, f47, f48, f49, f50, f51, f52, f53, f54, f55, f56, f57, f58, f59, f60, f61, f62, f63, f64, f65, f66, f67, f68, f69, f70])), (q_tokKind, .inl (cI, 1002, .inl (nF (va_up tk tn 0)))), (q_tokAt, .inl (cI, 1002, .inl (nF (va_up ta tn n)))), (q_tokSize, .inl (cI, 1002, .inl (nF (va_up ts tn (n - n))))), (q_tokValue, .inl (cI, 1002, .inl (upd tv tn (nI 0))))] := hD
          refine lv_iconst (v := nI 0) hx hb d_Model_tokenize_68 (by decide) ?_
          refine lv_istore_n (lv' := [(3, .int (nI 0)), (2, .int (nI y)), (0, .ref qm), (1, .int (nI 1000))]) hx hb d_Model_tokenize_69 rfl hl (by decide) rfl (fun ls hl => ?_)
          refine lv_goto (tgt := 18) hx hb d_Model_tokenize_70 (by decide) ?_
          have hq : m_tok (tn, tk, ta, ts, tv) 0 n n (nI 0) = F := by rw [← hr, m_tkz_e hn hy (by omega)]
          subst hq
          refine lv_iload_n hx hb d_Model_tokenize_18 rfl (lv_at hl 0 rfl) ?_
          refine nv_if_eq (x := 0) (tgt := 130) hx hb (by omega) d_Model_tokenize_19 (by decide) (fun _ => ?_) (fun q => absurd rfl q)
          exact kx H locs ls (hP.sub [2, 0, 3, 4, 5, 6, 1] rfl) (hD.sub [2, 0, 3, 4, 5, 6, 1] (by decide) rfl) hS (lv_sub hl [2, 3] rfl)
      · obtain ⟨z, hz, rfl⟩ := m_neg hn hk2 c_2
        refine lv_aload_n hx hb d_Model_tokenize_26 rfl (lv_at hl 2 rfl) ?_
        refine lv_bipush (v := nI 6) hx hb d_Model_tokenize_27 (by decide) ?_
        refine lv_bipush (v := (-2)) hx hb d_Model_tokenize_29 (by decide) ?_
        refine lv_iload_n hx hb d_Model_tokenize_31 rfl (lv_at hl 1 rfl) ?_
        refine lv_isub hx hb d_Model_tokenize_32 ?_
        refine lv_bipush (v := (-2)) hx hb d_Model_tokenize_33 (by decide) ?_
        refine lv_iload_n hx hb d_Model_tokenize_35 rfl (lv_at hl 1 rfl) ?_
        refine lv_isub hx hb d_Model_tokenize_36 ?_
        refine lv_iconst (v := nI 0) hx hb d_Model_tokenize_37 (by decide) ?_
        rw [m_m2]
        refine wc_v (wc := [(qm, .inr (13, [.ref qr, .ref q_text, f2, .int (nI n), f4, f5, f6, .ref q_tokKind, .ref q_tokAt, .ref q_tokSize, .ref q_tokValue, .int (nI tn), .int (nI 0), f13, f14, f15, f16, f17, f18, f19, f20, f21, f22, f23, f24, f25, f26, f27, f28, f29, f30, f31, f32, f33, f34, f35, f36, f37, f38, f39, f40, f41, f42, f43, f44, f45, f46, f47, f48, f49, f50, f51, f52, f53, f54, f55, f56, f57, f58, f59, f60, f61, f62, f63, f64, f65, f66, f67, f68, f69, f70])), (q_tokKind, .inl (cI, 1002, .inl (nF tk))), (q_tokAt, .inl (cI, 1002, .inl (nF ta))), (q_tokSize, .inl (cI, 1002, .inl (nF ts))), (q_tokValue, .inl (cI, 1002, .inl tv))]) (wr := [(q_text, .inl (cI, 2000, .inl ft)), (qr, .inl (cC, RR, .inl cw))]) (va_runV (As := [.int (nI 6), .int (nI z), .int (nI z), .int (nI 0)]) (rest := []) ⟨hx, hb, hml, hown, hts⟩ (c_Model_token l dC dI cB cI cL cZ cC cO tk ta ts tv tn 6 z z (nI 0) _ (by omega) (by omega)) (cwV 4 hts (good_V k_1113 k_1115 s_Model_token k_19 k_1116) rfl rfl rfl (by decide +kernel) ⟨Nat.le_of_ble_eq_true rfl, Nat.le_of_ble_eq_true rfl⟩) (wc_preV (k0 := 0) (ci := 13) (r := (R_Model, F_Model, 71)) hK hP hD hS hA hF [0, 2, 3, 4, 5] (by decide) rfl rfl rfl) rfl rfl hl.1 rfl (lv_room (Nat.le_of_ble_eq_true rfl)) d_Model_tokenize_38 ⟨Nat.le_of_ble_eq_true rfl, Nat.le_of_ble_eq_true rfl⟩) hP hD hS hA [0, 2, 3, 4, 5] [1, 6] rfl rfl (by decide) (by decide) (fun u H locs w_15 hP hD hS => ?_)
        have hP : va_P (dC, dI) cl [(q_text, .inl (cI, 2000, .inl ft)), (qr, .inl (cC, RR, .inl cw)), (qm, .inr (13, [.ref qr, .ref q_text, f2, .int (nI n), f4, f5, f6, .ref q_tokKind, .ref q_tokAt, .ref q_tokSize, .ref q_tokValue, .int (nI (tn + 1)), .int (nI 0), f13, f14, f15, f16, f17, f18, f19, f20, f21, f22, f23, f24, f25, f26, f27, f28, f29, f30, f31, f32, f33, f34, f35, f36, f37, f38, f39, f40, f41, f42, f43, f44, f45, f46, f47, f48, f49, f50, f51, f52, f53, f54, f55, f56, f57, f58, f59, f60, f61, f62, f63, f64, f65, f66, f67, f68, f69, f70])), (q_tokKind, .inl (cI, 1002, .inl (nF (va_up tk tn 6)))), (q_tokAt, .inl (cI, 1002, .inl (nF (va_up ta tn z)))), (q_tokSize, .inl (cI, 1002, .inl (nF (va_up ts tn (z - z))))), (q_tokValue, .inl (cI, 1002, .inl (upd tv tn (nI 0))))] H := hP
        have hD : va_D A [(q_text, .inl (cI, 2000, .inl ft)), (qr, .inl (cC, RR, .inl cw)), (qm, .inr (13, [.ref qr, .ref q_text, f2, .int (nI n), f4, f5, f6, .ref q_tokKind, .ref q_tokAt, .ref q_tokSize, .ref q_tokValue, .int (nI (tn + 1)), .int (nI 0), f13, f14, f15, f16, f17, f18, f19, f20, f21, f22, f23, f24, f25, f26, f27, f28, f29, f30, f31, f32, f33, f34, f35, f36, f37, f38, f39, f40, f41, f42, f43, f44, f45, f46, f47, f48, f49, f50, f51, f52, f53, f54, f55, f56, f57, f58, f59, f60, f61, f62, f63, f64, f65, f66, f67, f68, f69, f70])), (q_tokKind, .inl (cI, 1002, .inl (nF (va_up tk tn 6)))), (q_tokAt, .inl (cI, 1002, .inl (nF (va_up ta tn z)))), (q_tokSize, .inl (cI, 1002, .inl (nF (va_up ts tn (z - z))))), (q_tokValue, .inl (cI, 1002, .inl (upd tv tn (nI 0))))] := hD
        refine lv_iconst (v := nI 0) hx hb d_Model_tokenize_41 (by decide) ?_
        refine lv_istore_n (lv' := [(3, .int (nI 0)), (2, .int ((-2) - nI z)), (0, .ref qm), (1, .int (nI 1000))]) hx hb d_Model_tokenize_42 rfl hl (by decide) rfl (fun ls hl => ?_)
        refine lv_goto (tgt := 18) hx hb d_Model_tokenize_43 (by decide) ?_
        have hq : m_tok (tn, tk, ta, ts, tv) 6 z z (nI 0) = F := by rw [← hr, m_tkz_n hn hz]
        subst hq
        refine lv_iload_n hx hb d_Model_tokenize_18 rfl (lv_at hl 0 rfl) ?_
        refine nv_if_eq (x := 0) (tgt := 130) hx hb (by omega) d_Model_tokenize_19 (by decide) (fun _ => ?_) (fun q => absurd rfl q)
        exact kx H locs ls (hP.sub [2, 0, 3, 4, 5, 6, 1] rfl) (hD.sub [2, 0, 3, 4, 5, 6, 1] (by decide) rfl) hS (lv_sub hl [2, 3] rfl)
set_option maxHeartbeats 4000000 in
set_option maxRecDepth 100000 in
/-- tokenize(1000) -/
theorem c_Model_tokenize (l : Launch) (dC : Nat → ClassId) (dI : Nat → Nat → Nat) (cB cI cL cZ cC cO : ClassId) {qr : Nat}{qm q_text q_tokKind q_tokAt q_tokSize q_tokValue : Nat}{f2 f4 f5 f6 f13 f14 f15 f16 f17 f18 f19 f20 f21 f22 f23 f24 f25 f26 f27 f28 f29 f30 f31 f32 f33 f34 f35 f36 f37 f38 f39 f40 f41 f42 f43 f44 f45 f46 f47 f48 f49 f50 f51 f52 f53 f54 f55 f56 f57 f58 f59 f60 f61 f62 f63 f64 f65 f66 f67 f68 f69 f70 : Value} {f12 ftn : Value} (ft cw tv : Nat → Int32) (tk ta ts : Nat → Nat) (n RR : Nat) (sz : Nat) (hn : n ≤ 2000) (hR : RR < 1000) (hR0 : 0 < RR) (hRl : cw (RR - 1) = nI 32) : Met l y_Model_tokenize w_Model_tokenize ({ frames := 4, cells := 0, slots := 0, locals := 120 }) (va_Pc [.ref qm, .int (nI 1000)] (wB (dC, dI) cl [(cB, .byte), (cI, .int), (cL, .long), (cZ, .boolean), (cC, .char), (cO, .object "java/lang/Object")] sz [(qm, .inr (13, [.ref qr, .ref q_text, f2, .int (nI n), f4, f5, f6, .ref q_tokKind, .ref q_tokAt, .ref q_tokSize, .ref q_tokValue, ftn, f12, f13, f14, f15, f16, f17, f18, f19, f20, f21, f22, f23, f24, f25, f26, f27, f28, f29, f30, f31, f32, f33, f34, f35, f36, f37, f38, f39, f40, f41, f42, f43, f44, f45, f46, f47, f48, f49, f50, f51, f52, f53, f54, f55, f56, f57, f58, f59, f60, f61, f62, f63, f64, f65, f66, f67, f68, f69, f70])), (q_text, .inl (cI, 2000, .inl ft)), (q_tokKind, .inl (cI, 1002, .inl (nF tk))), (q_tokAt, .inl (cI, 1002, .inl (nF ta))), (q_tokSize, .inl (cI, 1002, .inl (nF ts))), (q_tokValue, .inl (cI, 1002, .inl tv)), (qr, .inl (cC, RR, .inl cw))])) (va_Qv (fun (u : TS) => u = m_tkz ft n cw RR 1001 (m_skip ft n n 0) (0, tk, ta, ts, tv)) (fun u t => wA (dC, dI) cl [(cB, .byte), (cI, .int), (cL, .long), (cZ, .boolean), (cC, .char), (cO, .object "java/lang/Object")] (va_A [(qm, .inr (13, [.ref qr, .ref q_text, f2, .int (nI n), f4, f5, f6, .ref q_tokKind, .ref q_tokAt, .ref q_tokSize, .ref q_tokValue, ftn, f12, f13, f14, f15, f16, f17, f18, f19, f20, f21, f22, f23, f24, f25, f26, f27, f28, f29, f30, f31, f32, f33, f34, f35, f36, f37, f38, f39, f40, f41, f42, f43, f44, f45, f46, f47, f48, f49, f50, f51, f52, f53, f54, f55, f56, f57, f58, f59, f60, f61, f62, f63, f64, f65, f66, f67, f68, f69, f70])), (q_text, .inl (cI, 2000, .inl ft)), (q_tokKind, .inl (cI, 1002, .inl (nF tk))), (q_tokAt, .inl (cI, 1002, .inl (nF ta))), (q_tokSize, .inl (cI, 1002, .inl (nF ts))), (q_tokValue, .inl (cI, 1002, .inl tv)), (qr, .inl (cC, RR, .inl cw))] sz) [(qm, .inr (13, [.ref qr, .ref q_text, f2, .int (nI n), f4, f5, f6, .ref q_tokKind, .ref q_tokAt, .ref q_tokSize, .ref q_tokValue, .int (nI u.1), .int (nI 0), f13, f14, f15, f16, f17, f18, f19, f20, f21, f22, f23, f24, f25, f26, f27, f28, f29, f30, f31, f32, f33, f34, f35, f36, f37, f38, f39, f40, f41, f42, f43, f44, f45, f46, f47, f48, f49, f50, f51, f52, f53, f54, f55, f56, f57, f58, f59, f60, f61, f62, f63, f64, f65, f66, f67, f68, f69, f70])), (q_text, .inl (cI, 2000, .inl ft)), (q_tokKind, .inl (cI, 1002, .inl (nF u.2.1))), (q_tokAt, .inl (cI, 1002, .inl (nF u.2.2.1))), (q_tokSize, .inl (cI, 1002, .inl (nF u.2.2.2.1))), (q_tokValue, .inl (cI, 1002, .inl u.2.2.2.2)), (qr, .inl (cC, RR, .inl cw))] t) (va_A [(qm, .inr (13, [.ref qr, .ref q_text, f2, .int (nI n), f4, f5, f6, .ref q_tokKind, .ref q_tokAt, .ref q_tokSize, .ref q_tokValue, ftn, f12, f13, f14, f15, f16, f17, f18, f19, f20, f21, f22, f23, f24, f25, f26, f27, f28, f29, f30, f31, f32, f33, f34, f35, f36, f37, f38, f39, f40, f41, f42, f43, f44, f45, f46, f47, f48, f49, f50, f51, f52, f53, f54, f55, f56, f57, f58, f59, f60, f61, f62, f63, f64, f65, f66, f67, f68, f69, f70])), (q_text, .inl (cI, 2000, .inl ft)), (q_tokKind, .inl (cI, 1002, .inl (nF tk))), (q_tokAt, .inl (cI, 1002, .inl (nF ta))), (q_tokSize, .inl (cI, 1002, .inl (nF ts))), (q_tokValue, .inl (cI, 1002, .inl tv)), (qr, .inl (cC, RR, .inl cw))] sz)) 0 0 (va_A [(qm, .inr (13, [.ref qr, .ref q_text, f2, .int (nI n), f4, f5, f6, .ref q_tokKind, .ref q_tokAt, .ref q_tokSize, .ref q_tokValue, ftn, f12, f13, f14, f15, f16, f17, f18, f19, f20, f21, f22, f23, f24, f25, f26, f27, f28, f29, f30, f31, f32, f33, f34, f35, f36, f37, f38, f39, f40, f41, f42, f43, f44, f45, f46, f47, f48, f49, f50, f51, f52, f53, f54, f55, f56, f57, f58, f59, f60, f61, f62, f63, f64, f65, f66, f67, f68, f69, f70])), (q_text, .inl (cI, 2000, .inl ft)), (q_tokKind, .inl (cI, 1002, .inl (nF tk))), (q_tokAt, .inl (cI, 1002, .inl (nF ta))), (q_tokSize, .inl (cI, 1002, .inl (nF ts))), (q_tokValue, .inl (cI, 1002, .inl tv)), (qr, .inl (cC, RR, .inl cw))] sz) := by
  refine Met.ofW (cc := b_Model_tokenize) (maxL := 5) (ret := none) (by decide) rfl ?_
  intro p e s m args below meth c s₁ B hml hv
  obtain ⟨rfl, hsz, hP, hK, hD0, hF⟩ := hv
  have hx := B.exec
  have hb := B.bytes
  have hr := B.returns
  have hts := atoms_spec (ws := w_Model_tokenize) B.pre
  have hts : ∀ w ∈ tb, w.before _ s = true := fun w h => hts w (List.mem_cons_of_mem _ h)
  have hown : s.vm.findClass R_Model = some m.cls := findClass_of_methodNamed B.named
  have hlocks := B.notSynchronized
  subst hsz
  have hD := hD0.self (sz := s.heap.size)
  generalize hAe : va_A [(qm, .inr (13, [.ref qr, .ref q_text, f2, .int (nI n), f4, f5, f6, .ref q_tokKind, .ref q_tokAt, .ref q_tokSize, .ref q_tokValue, ftn, f12, f13, f14, f15, f16, f17, f18, f19, f20, f21, f22, f23, f24, f25, f26, f27, f28, f29, f30, f31, f32, f33, f34, f35, f36, f37, f38, f39, f40, f41, f42, f43, f44, f45, f46, f47, f48, f49, f50, f51, f52, f53, f54, f55, f56, f57, f58, f59, f60, f61, f62, f63, f64, f65, f66, f67, f68, f69, f70])), (q_text, .inl (cI, 2000, .inl ft)), (q_tokKind, .inl (cI, 1002, .inl (nF tk))), (q_tokAt, .inl (cI, 1002, .inl (nF ta))), (q_tokSize, .inl (cI, 1002, .inl (nF ts))), (q_tokValue, .inl (cI, 1002, .inl tv)), (qr, .inl (cC, RR, .inl cw))] s.heap.size = A at hD hF ⊢
  have hA : ∀ q : Nat, s.heap.size ≤ q → A q := fun q h => by rw [← hAe]; exact Or.inr h
  have hS : va_S A s.heap s.heap [] := va_S.rf
  have hP : va_P (dC, dI) cl [(qm, .inr (13, [.ref qr, .ref q_text, f2, .int (nI n), f4, f5, f6, .ref q_tokKind, .ref q_tokAt, .ref q_tokSize, .ref q_tokValue, ftn, f12, f13, f14, f15, f16, f17, f18, f19, f20, f21, f22, f23, f24, f25, f26, f27, f28, f29, f30, f31, f32, f33, f34, f35, f36, f37, f38, f39, f40, f41, f42, f43, f44, f45, f46, f47, f48, f49, f50, f51, f52, f53, f54, f55, f56, f57, f58, f59, f60, f61, f62, f63, f64, f65, f66, f67, f68, f69, f70])), (q_text, .inl (cI, 2000, .inl ft)), (q_tokKind, .inl (cI, 1002, .inl (nF tk))), (q_tokAt, .inl (cI, 1002, .inl (nF ta))), (q_tokSize, .inl (cI, 1002, .inl (nF ts))), (q_tokValue, .inl (cI, 1002, .inl tv)), (qr, .inl (cC, RR, .inl cw))] s.heap := hP
  have hl := lv_entry ([.ref qm, .int (nI 1000)]) (n := 5) (Nat.le_of_ble_eq_true rfl)
  rw [lg_entry_eq]
  generalize (lg_sl ([.ref qm, .int (nI 1000)]) ++ List.replicate (5 - (lg_sl ([.ref qm, .int (nI 1000)])).length) Slot.unset).toArray = ls at hl ⊢
  have hl : lv_has ls 5 [(0, .ref qm), (1, .int (nI 1000))] := hl
  refine lv_aload_n hx hb d_Model_tokenize_0 rfl (lv_at hl 0 rfl) ?_
  refine lv_iconst (v := nI 0) hx hb d_Model_tokenize_1 (by decide) ?_
  refine va_put (D := (dC, dI)) (ci := 13) (v := .int (nI 0)) (ty := .int) (C := R_Model) (T := F_Model) (N := 71) hx hb hts i_Model t_Model t_Model_ok n_Model hown hK hP hD hS 0 rfl rfl 11 (by decide) (hts _ k_885) (fun _ h9 => h9) rfl (by decide +kernel) rfl rfl (Nat.le_of_ble_eq_true rfl) d_Model_tokenize_2 (fun H locs hP hD hS => ?_)
  have hP : va_P (dC, dI) cl [(qm, .inr (13, [.ref qr, .ref q_text, f2, .int (nI n), f4, f5, f6, .ref q_tokKind, .ref q_tokAt, .ref q_tokSize, .ref q_tokValue, .int (nI 0), f12, f13, f14, f15, f16, f17, f18, f19, f20, f21, f22, f23, f24, f25, f26, f27, f28, f29, f30, f31, f32, f33, f34, f35, f36, f37, f38, f39, f40, f41, f42, f43, f44, f45, f46, f47, f48, f49, f50, f51, f52, f53, f54, f55, f56, f57, f58, f59, f60, f61, f62, f63, f64, f65, f66, f67, f68, f69, f70])), (q_text, .inl (cI, 2000, .inl ft)), (q_tokKind, .inl (cI, 1002, .inl (nF tk))), (q_tokAt, .inl (cI, 1002, .inl (nF ta))), (q_tokSize, .inl (cI, 1002, .inl (nF ts))), (q_tokValue, .inl (cI, 1002, .inl tv)), (qr, .inl (cC, RR, .inl cw))] H := hP
  have hD : va_D A [(qm, .inr (13, [.ref qr, .ref q_text, f2, .int (nI n), f4, f5, f6, .ref q_tokKind, .ref q_tokAt, .ref q_tokSize, .ref q_tokValue, .int (nI 0), f12, f13, f14, f15, f16, f17, f18, f19, f20, f21, f22, f23, f24, f25, f26, f27, f28, f29, f30, f31, f32, f33, f34, f35, f36, f37, f38, f39, f40, f41, f42, f43, f44, f45, f46, f47, f48, f49, f50, f51, f52, f53, f54, f55, f56, f57, f58, f59, f60, f61, f62, f63, f64, f65, f66, f67, f68, f69, f70])), (q_text, .inl (cI, 2000, .inl ft)), (q_tokKind, .inl (cI, 1002, .inl (nF tk))), (q_tokAt, .inl (cI, 1002, .inl (nF ta))), (q_tokSize, .inl (cI, 1002, .inl (nF ts))), (q_tokValue, .inl (cI, 1002, .inl tv)), (qr, .inl (cC, RR, .inl cw))] := hD
  refine lv_aload_n hx hb d_Model_tokenize_5 rfl (lv_at hl 0 rfl) ?_
  refine lv_iconst (v := nI 0) hx hb d_Model_tokenize_6 (by decide) ?_
  refine va_put (D := (dC, dI)) (ci := 13) (v := .int (nI 0)) (ty := .int) (C := R_Model) (T := F_Model) (N := 71) hx hb hts i_Model t_Model t_Model_ok n_Model hown hK hP hD hS 0 rfl rfl 12 (by decide) (hts _ k_886) (fun _ h9 => h9) rfl (by decide +kernel) rfl rfl (Nat.le_of_ble_eq_true rfl) d_Model_tokenize_7 (fun H locs hP hD hS => ?_)
  have hP : va_P (dC, dI) cl [(qm, .inr (13, [.ref qr, .ref q_text, f2, .int (nI n), f4, f5, f6, .ref q_tokKind, .ref q_tokAt, .ref q_tokSize, .ref q_tokValue, .int (nI 0), .int (nI 0), f13, f14, f15, f16, f17, f18, f19, f20, f21, f22, f23, f24, f25, f26, f27, f28, f29, f30, f31, f32, f33, f34, f35, f36, f37, f38, f39, f40, f41, f42, f43, f44, f45, f46, f47, f48, f49, f50, f51, f52, f53, f54, f55, f56, f57, f58, f59, f60, f61, f62, f63, f64, f65, f66, f67, f68, f69, f70])), (q_text, .inl (cI, 2000, .inl ft)), (q_tokKind, .inl (cI, 1002, .inl (nF tk))), (q_tokAt, .inl (cI, 1002, .inl (nF ta))), (q_tokSize, .inl (cI, 1002, .inl (nF ts))), (q_tokValue, .inl (cI, 1002, .inl tv)), (qr, .inl (cC, RR, .inl cw))] H := hP
  have hD : va_D A [(qm, .inr (13, [.ref qr, .ref q_text, f2, .int (nI n), f4, f5, f6, .ref q_tokKind, .ref q_tokAt, .ref q_tokSize, .ref q_tokValue, .int (nI 0), .int (nI 0), f13, f14, f15, f16, f17, f18, f19, f20, f21, f22, f23, f24, f25, f26, f27, f28, f29, f30, f31, f32, f33, f34, f35, f36, f37, f38, f39, f40, f41, f42, f43, f44, f45, f46, f47, f48, f49, f50, f51, f52, f53, f54, f55, f56, f57, f58, f59, f60, f61, f62, f63, f64, f65, f66, f67, f68, f69, f70])), (q_text, .inl (cI, 2000, .inl ft)), (q_tokKind, .inl (cI, 1002, .inl (nF tk))), (q_tokAt, .inl (cI, 1002, .inl (nF ta))), (q_tokSize, .inl (cI, 1002, .inl (nF ts))), (q_tokValue, .inl (cI, 1002, .inl tv)), (qr, .inl (cC, RR, .inl cw))] := hD
  refine lv_aload_n hx hb d_Model_tokenize_10 rfl (lv_at hl 0 rfl) ?_
  refine lv_iconst (v := nI 0) hx hb d_Model_tokenize_11 (by decide) ?_
  refine wc_i (wc := [(qm, .inr (13, [.ref qr, .ref q_text, f2, .int (nI n), f4, f5, f6, .ref q_tokKind, .ref q_tokAt, .ref q_tokSize, .ref q_tokValue, .int (nI 0), .int (nI 0), f13, f14, f15, f16, f17, f18, f19, f20, f21, f22, f23, f24, f25, f26, f27, f28, f29, f30, f31, f32, f33, f34, f35, f36, f37, f38, f39, f40, f41, f42, f43, f44, f45, f46, f47, f48, f49, f50, f51, f52, f53, f54, f55, f56, f57, f58, f59, f60, f61, f62, f63, f64, f65, f66, f67, f68, f69, f70])), (q_text, .inl (cI, 2000, .inl ft))]) (wr := [(q_tokKind, .inl (cI, 1002, .inl (nF tk))), (q_tokAt, .inl (cI, 1002, .inl (nF ta))), (q_tokSize, .inl (cI, 1002, .inl (nF ts))), (q_tokValue, .inl (cI, 1002, .inl tv)), (qr, .inl (cC, RR, .inl cw))]) (va_runV (As := [.int (nI 0)]) (rest := []) ⟨hx, hb, hml, hown, hts⟩ (c_Model_skip l dC dI cB cI cL cZ cC cO ft n 0 _ hn (by omega)) (cwV 1 hts (good_V k_1105 k_1107 s_Model_skip k_19 k_1108) rfl rfl rfl (by decide +kernel) ⟨Nat.le_of_ble_eq_true rfl, Nat.le_of_ble_eq_true rfl⟩) (wc_preV (k0 := 0) (ci := 13) (r := (R_Model, F_Model, 71)) hK hP hD hS hA hF [0, 1] (by decide) rfl rfl rfl) rfl rfl hl.1 rfl (lv_room (Nat.le_of_ble_eq_true rfl)) d_Model_tokenize_12 ⟨Nat.le_of_ble_eq_true rfl, Nat.le_of_ble_eq_true rfl⟩) hP hD hS hA [0, 1] [2, 3, 4, 5, 6] rfl rfl (by decide) (by decide) (fun r_2 u H locs w_1 hP hD hS => ?_)
  have hP : va_P (dC, dI) cl [(q_tokKind, .inl (cI, 1002, .inl (nF tk))), (q_tokAt, .inl (cI, 1002, .inl (nF ta))), (q_tokSize, .inl (cI, 1002, .inl (nF ts))), (q_tokValue, .inl (cI, 1002, .inl tv)), (qr, .inl (cC, RR, .inl cw)), (qm, .inr (13, [.ref qr, .ref q_text, f2, .int (nI n), f4, f5, f6, .ref q_tokKind, .ref q_tokAt, .ref q_tokSize, .ref q_tokValue, .int (nI 0), .int (nI 0), f13, f14, f15, f16, f17, f18, f19, f20, f21, f22, f23, f24, f25, f26, f27, f28, f29, f30, f31, f32, f33, f34, f35, f36, f37, f38, f39, f40, f41, f42, f43, f44, f45, f46, f47, f48, f49, f50, f51, f52, f53, f54, f55, f56, f57, f58, f59, f60, f61, f62, f63, f64, f65, f66, f67, f68, f69, f70])), (q_text, .inl (cI, 2000, .inl ft))] H := hP
  have hD : va_D A [(q_tokKind, .inl (cI, 1002, .inl (nF tk))), (q_tokAt, .inl (cI, 1002, .inl (nF ta))), (q_tokSize, .inl (cI, 1002, .inl (nF ts))), (q_tokValue, .inl (cI, 1002, .inl tv)), (qr, .inl (cC, RR, .inl cw)), (qm, .inr (13, [.ref qr, .ref q_text, f2, .int (nI n), f4, f5, f6, .ref q_tokKind, .ref q_tokAt, .ref q_tokSize, .ref q_tokValue, .int (nI 0), .int (nI 0), f13, f14, f15, f16, f17, f18, f19, f20, f21, f22, f23, f24, f25, f26, f27, f28, f29, f30, f31, f32, f33, f34, f35, f36, f37, f38, f39, f40, f41, f42, f43, f44, f45, f46, f47, f48, f49, f50, f51, f52, f53, f54, f55, f56, f57, f58, f59, f60, f61, f62, f63, f64, f65, f66, f67, f68, f69, f70])), (q_text, .inl (cI, 2000, .inl ft))] := hD
  subst w_1
  refine lv_istore_n (lv' := [(2, .int (m_skip ft n n 0)), (0, .ref qm), (1, .int (nI 1000))]) hx hb d_Model_tokenize_15 rfl hl (by decide) rfl (fun ls hl => ?_)
  refine lv_iconst (v := nI 1) hx hb d_Model_tokenize_16 (by decide) ?_
  refine lv_istore_n (lv' := [(3, .int (nI 1)), (2, .int (m_skip ft n n 0)), (0, .ref qm), (1, .int (nI 1000))]) hx hb d_Model_tokenize_17 rfl hl (by decide) rfl (fun ls hl => ?_)
  refine lp_Model_tokenize (F := (m_tkz ft n cw RR 1001 (m_skip ft n n 0) (0, tk, ta, ts, tv))) hn hR hR0 hRl hx hb hml hown hts hA hF hK (fun H locs ls hP hD hS hl => ?_) 1001 (m_skip ft n n 0) 0 tk ta ts tv _ _ ls (by omega) (by omega) (m_skip_in ft n n 0 (by omega)) rfl (hP.sub [5, 6, 0, 1, 2, 3, 4] rfl) (hD.sub [5, 6, 0, 1, 2, 3, 4] (by decide) rfl) hS (lv_sub hl [0, 1, 2, 3] rfl)
  exact wr_v hx hb hr hlocks (m_tkz ft n cw RR 1001 (m_skip ft n n 0) (0, tk, ta, ts, tv)) rfl hK hP hD hS d_Model_tokenize_130
