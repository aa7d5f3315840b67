theorem d_Model_gates_0 : decode b_Model_gates 0 = .ok (.aload_n 0, 1) := by decide +kernel
theorem d_Model_gates_1 : decode b_Model_gates 1 = .ok (.getfield 385, 3) := by decide +kernel
theorem d_Model_gates_4 : decode b_Model_gates 4 = .ok (.ifCond .eq 13, 3) := by decide +kernel
theorem d_Model_gates_7 : decode b_Model_gates 7 = .ok (.iload_n 1, 1) := by decide +kernel
theorem d_Model_gates_8 : decode b_Model_gates 8 = .ok (.ifCond .lt 9, 3) := by decide +kernel
theorem d_Model_gates_11 : decode b_Model_gates 11 = .ok (.iload_n 1, 1) := by decide +kernel
theorem d_Model_gates_12 : decode b_Model_gates 12 = .ok (.bipush 7, 2) := by decide +kernel
theorem d_Model_gates_14 : decode b_Model_gates 14 = .ok (.if_icmp .le 5, 3) := by decide +kernel
theorem d_Model_gates_17 : decode b_Model_gates 17 = .ok (.iconst (-1), 1) := by decide +kernel
theorem d_Model_gates_18 : decode b_Model_gates 18 = .ok (.ireturn, 1) := by decide +kernel
theorem d_Model_gates_19 : decode b_Model_gates 19 = .ok (.iconst 0, 1) := by decide +kernel
theorem d_Model_gates_20 : decode b_Model_gates 20 = .ok (.istore_n 2, 1) := by decide +kernel
theorem d_Model_gates_21 : decode b_Model_gates 21 = .ok (.iconst 0, 1) := by decide +kernel
theorem d_Model_gates_22 : decode b_Model_gates 22 = .ok (.istore_n 3, 1) := by decide +kernel
theorem d_Model_gates_23 : decode b_Model_gates 23 = .ok (.iconst 0, 1) := by decide +kernel
theorem d_Model_gates_24 : decode b_Model_gates 24 = .ok (.istore 4, 2) := by decide +kernel
theorem d_Model_gates_26 : decode b_Model_gates 26 = .ok (.iload 4, 2) := by decide +kernel
theorem d_Model_gates_28 : decode b_Model_gates 28 = .ok (.aload_n 0, 1) := by decide +kernel
theorem d_Model_gates_29 : decode b_Model_gates 29 = .ok (.getfield 376, 3) := by decide +kernel
theorem d_Model_gates_32 : decode b_Model_gates 32 = .ok (.if_icmp .ge 58, 3) := by decide +kernel
theorem d_Model_gates_35 : decode b_Model_gates 35 = .ok (.aload_n 0, 1) := by decide +kernel
theorem d_Model_gates_36 : decode b_Model_gates 36 = .ok (.getfield 137, 3) := by decide +kernel
theorem d_Model_gates_39 : decode b_Model_gates 39 = .ok (.iload 4, 2) := by decide +kernel
theorem d_Model_gates_41 : decode b_Model_gates 41 = .ok (.iaload, 1) := by decide +kernel
theorem d_Model_gates_42 : decode b_Model_gates 42 = .ok (.istore 5, 2) := by decide +kernel
theorem d_Model_gates_44 : decode b_Model_gates 44 = .ok (.iload_n 2, 1) := by decide +kernel
theorem d_Model_gates_45 : decode b_Model_gates 45 = .ok (.aload_n 0, 1) := by decide +kernel
theorem d_Model_gates_46 : decode b_Model_gates 46 = .ok (.getfield 146, 3) := by decide +kernel
theorem d_Model_gates_49 : decode b_Model_gates 49 = .ok (.aload_n 0, 1) := by decide +kernel
theorem d_Model_gates_50 : decode b_Model_gates 50 = .ok (.getfield 131, 3) := by decide +kernel
theorem d_Model_gates_53 : decode b_Model_gates 53 = .ok (.iload 5, 2) := by decide +kernel
theorem d_Model_gates_55 : decode b_Model_gates 55 = .ok (.iaload, 1) := by decide +kernel
theorem d_Model_gates_56 : decode b_Model_gates 56 = .ok (.iconst 2, 1) := by decide +kernel
theorem d_Model_gates_57 : decode b_Model_gates 57 = .ok (.iadd, 1) := by decide +kernel
theorem d_Model_gates_58 : decode b_Model_gates 58 = .ok (.iaload, 1) := by decide +kernel
theorem d_Model_gates_59 : decode b_Model_gates 59 = .ok (.iadd, 1) := by decide +kernel
theorem d_Model_gates_60 : decode b_Model_gates 60 = .ok (.istore_n 2, 1) := by decide +kernel
theorem d_Model_gates_61 : decode b_Model_gates 61 = .ok (.aload_n 0, 1) := by decide +kernel
theorem d_Model_gates_62 : decode b_Model_gates 62 = .ok (.getfield 134, 3) := by decide +kernel
theorem d_Model_gates_65 : decode b_Model_gates 65 = .ok (.iload 5, 2) := by decide +kernel
theorem d_Model_gates_67 : decode b_Model_gates 67 = .ok (.iaload, 1) := by decide +kernel
theorem d_Model_gates_68 : decode b_Model_gates 68 = .ok (.iload_n 3, 1) := by decide +kernel
theorem d_Model_gates_69 : decode b_Model_gates 69 = .ok (.if_icmp .le 13, 3) := by decide +kernel
theorem d_Model_gates_72 : decode b_Model_gates 72 = .ok (.aload_n 0, 1) := by decide +kernel
theorem d_Model_gates_73 : decode b_Model_gates 73 = .ok (.getfield 134, 3) := by decide +kernel
theorem d_Model_gates_76 : decode b_Model_gates 76 = .ok (.iload 5, 2) := by decide +kernel
theorem d_Model_gates_78 : decode b_Model_gates 78 = .ok (.iaload, 1) := by decide +kernel
theorem d_Model_gates_79 : decode b_Model_gates 79 = .ok (.goto 4, 3) := by decide +kernel
theorem d_Model_gates_82 : decode b_Model_gates 82 = .ok (.iload_n 3, 1) := by decide +kernel
theorem d_Model_gates_83 : decode b_Model_gates 83 = .ok (.istore_n 3, 1) := by decide +kernel
theorem d_Model_gates_84 : decode b_Model_gates 84 = .ok (.iinc 4 1, 3) := by decide +kernel
theorem d_Model_gates_87 : decode b_Model_gates 87 = .ok (.goto (-61), 3) := by decide +kernel
theorem d_Model_gates_90 : decode b_Model_gates 90 = .ok (.iload_n 1, 1) := by decide +kernel
theorem d_Model_gates_91 : decode b_Model_gates 91 = .ok (.tableswitch 80 0 6 #[41, 46, 56, 62, 68, 73, 75], 41) := by decide +kernel
theorem d_Model_gates_132 : decode b_Model_gates 132 = .ok (.aload_n 0, 1) := by decide +kernel
theorem d_Model_gates_133 : decode b_Model_gates 133 = .ok (.getfield 376, 3) := by decide +kernel
theorem d_Model_gates_136 : decode b_Model_gates 136 = .ok (.ireturn, 1) := by decide +kernel
theorem d_Model_gates_137 : decode b_Model_gates 137 = .ok (.aload_n 0, 1) := by decide +kernel
theorem d_Model_gates_138 : decode b_Model_gates 138 = .ok (.getfield 357, 3) := by decide +kernel
theorem d_Model_gates_141 : decode b_Model_gates 141 = .ok (.aload_n 0, 1) := by decide +kernel
theorem d_Model_gates_142 : decode b_Model_gates 142 = .ok (.getfield 376, 3) := by decide +kernel
theorem d_Model_gates_145 : decode b_Model_gates 145 = .ok (.isub, 1) := by decide +kernel
theorem d_Model_gates_146 : decode b_Model_gates 146 = .ok (.ireturn, 1) := by decide +kernel
theorem d_Model_gates_147 : decode b_Model_gates 147 = .ok (.aload_n 0, 1) := by decide +kernel
theorem d_Model_gates_148 : decode b_Model_gates 148 = .ok (.iconst 0, 1) := by decide +kernel
theorem d_Model_gates_149 : decode b_Model_gates 149 = .ok (.invokevirtual 431, 3) := by decide +kernel
theorem d_Model_gates_152 : decode b_Model_gates 152 = .ok (.ireturn, 1) := by decide +kernel
theorem d_Model_gates_153 : decode b_Model_gates 153 = .ok (.aload_n 0, 1) := by decide +kernel
theorem d_Model_gates_154 : decode b_Model_gates 154 = .ok (.iconst 1, 1) := by decide +kernel
theorem d_Model_gates_155 : decode b_Model_gates 155 = .ok (.invokevirtual 431, 3) := by decide +kernel
theorem d_Model_gates_158 : decode b_Model_gates 158 = .ok (.ireturn, 1) := by decide +kernel
theorem d_Model_gates_159 : decode b_Model_gates 159 = .ok (.aload_n 0, 1) := by decide +kernel
theorem d_Model_gates_160 : decode b_Model_gates 160 = .ok (.getfield 237, 3) := by decide +kernel
theorem d_Model_gates_163 : decode b_Model_gates 163 = .ok (.ireturn, 1) := by decide +kernel
theorem d_Model_gates_164 : decode b_Model_gates 164 = .ok (.iload_n 3, 1) := by decide +kernel
theorem d_Model_gates_165 : decode b_Model_gates 165 = .ok (.ireturn, 1) := by decide +kernel
theorem d_Model_gates_166 : decode b_Model_gates 166 = .ok (.aload_n 0, 1) := by decide +kernel
theorem d_Model_gates_167 : decode b_Model_gates 167 = .ok (.getfield 421, 3) := by decide +kernel
theorem d_Model_gates_170 : decode b_Model_gates 170 = .ok (.ireturn, 1) := by decide +kernel
theorem d_Model_gates_171 : decode b_Model_gates 171 = .ok (.iload_n 2, 1) := by decide +kernel
theorem d_Model_gates_172 : decode b_Model_gates 172 = .ok (.ireturn, 1) := by decide +kernel
/-- the ones among the Nands, and the longest way -/
def gt_1 (gi bv : Nat → Nat) (gl : Nat → Option Nat) (x : Nat) (S : Nat × Nat) : Nat × Nat := (S.1 + bv (gi x + 2), if S.2 < (gl x).getD 0 then (gl x).getD 0 else S.2)
def gt_l (go gi bv : Nat → Nat) (gl : Nat → Option Nat) : Nat → Nat → Nat × Nat → Nat × Nat
  | 0, _, S => S
  | k + 1, i, S => gt_l go gi bv gl k (i + 1) (gt_1 gi bv gl (go i) S)
theorem gt_l_u (go gi bv : Nat → Nat) (gl : Nat → Option Nat) (n i : Nat) (S : Nat × Nat) : gt_l go gi bv gl (n - i) i S = if i < n then gt_l go gi bv gl (n - (i + 1)) (i + 1) (gt_1 gi bv gl (go i) S) else S := by
  by_cases h : i < n
  · rw [if_pos h, show n - i = (n - (i + 1)) + 1 by omega]; rfl
  · rw [if_neg h, show n - i = 0 by omega]; rfl
def gsel (od gc ins outs nc tk : Nat) (S : Nat × Nat) (n : Nat) : Nat := if n = 0 then od else if n = 1 then gc - od else if n = 2 then ins else if n = 3 then outs else if n = 4 then nc else if n = 5 then S.2 else if n = 6 then tk else S.1
set_option maxHeartbeats 4000000 in
set_option maxRecDepth 100000 in
theorem lp_Model_gates {p : Program} {l : Launch} {e : Env} {s : State} {m : MethodId} {args : Array Value} {below : List Frame} {meth : Method} {c : Code} {Q : State → Prop} {A : Nat → Prop} {dC : Nat → ClassId} {dI : Nat → Nat → Nat} {cB cI cL cZ cC cO : ClassId} {qm q_pinFirst q_pinOut q_gateOrder q_bitValue q_gateIn q_gateLevel : Nat}{f0 f1 f2 f3 f4 f5 f6 f7 f8 f9 f10 f11 f12 f13 f14 f16 f18 f20 f21 f22 f23 f24 f25 f26 f27 f28 f29 f30 f31 f32 f33 f34 f35 f36 f37 f38 f39 f40 f41 f42 f43 f44 f46 f47 f48 f49 f50 f51 f52 f53 f54 f55 f57 f62 f63 f65 f66 f67 f70 : Value} {bd : Bool} {od gc nc tk bch n FO FL : Nat} {pf go bv gi : Nat → Nat} {po : Nat → Bool} {gl : Nat → Option Nat} (hod : od ≤ gc) (hgc : gc ≤ 300) (hnc : nc ≤ 8) (hb8 : bch < 8) (hpf : ∀ j, pf j ≤ 200) (hgo : ∀ i, i < od → go i < 300 ∧ gi (go i) + 2 < 8000) (hgl : ∀ i z, gl i = some z → z ≤ 1000) (hx : p.tables.exec = Jvm.exec) (hb : c.code = b_Model_gates) (hml : c.maxLocals = 6) (hown : s.vm.findClass R_Model = some m.cls) (hts : ∀ w ∈ tb, w.before args s = true) (hA : ∀ q, s.heap.size ≤ q → A q) (hF : stF A s) (hK : va_K (dC, dI) cl [(cB, .byte), (cI, .int), (cL, .long), (cZ, .boolean), (cC, .char), (cO, .object "java/lang/Object")] s)
    (kx : ∀  (H : Heap) (locs : List Loc) (ls : Array Slot), va_P (dC, dI) cl [(qm, .inr (13, [f0, f1, f2, f3, f4, f5, f6, f7, f8, f9, f10, f11, f12, f13, f14, .int (nI nc), f16, .ref q_pinFirst, f18, .ref q_pinOut, f20, f21, f22, f23, f24, f25, f26, f27, f28, f29, f30, f31, f32, f33, f34, f35, f36, f37, f38, f39, f40, f41, f42, f43, f44, .int (bI bd), f46, f47, f48, f49, f50, f51, f52, f53, f54, f55, .int (nI gc), f57, .ref q_gateIn, .ref q_gateLevel, .ref q_gateOrder, .int (nI od), f62, f63, .ref q_bitValue, f65, f66, f67, .int (nI tk), .int (nI bch), f70])), (q_pinFirst, .inl (cI, 18, .inl (nF pf))), (q_pinOut, .inl (cZ, 200, .inl (bF po))), (q_gateOrder, .inl (cI, 300, .inl (nF go))), (q_bitValue, .inl (cI, 8000, .inl (nF bv))), (q_gateIn, .inl (cI, 300, .inl (nF gi))), (q_gateLevel, .inl (cI, 300, .inl (oF gl)))] H → va_D A [(qm, .inr (13, [f0, f1, f2, f3, f4, f5, f6, f7, f8, f9, f10, f11, f12, f13, f14, .int (nI nc), f16, .ref q_pinFirst, f18, .ref q_pinOut, f20, f21, f22, f23, f24, f25, f26, f27, f28, f29, f30, f31, f32, f33, f34, f35, f36, f37, f38, f39, f40, f41, f42, f43, f44, .int (bI bd), f46, f47, f48, f49, f50, f51, f52, f53, f54, f55, .int (nI gc), f57, .ref q_gateIn, .ref q_gateLevel, .ref q_gateOrder, .int (nI od), f62, f63, .ref q_bitValue, f65, f66, f67, .int (nI tk), .int (nI bch), f70])), (q_pinFirst, .inl (cI, 18, .inl (nF pf))), (q_pinOut, .inl (cZ, 200, .inl (bF po))), (q_gateOrder, .inl (cI, 300, .inl (nF go))), (q_bitValue, .inl (cI, 8000, .inl (nF bv))), (q_gateIn, .inl (cI, 300, .inl (nF gi))), (q_gateLevel, .inl (cI, 300, .inl (oF gl)))] → va_S A s.heap H locs → lv_has ls 6 [(2, .int (nI FO)), (3, .int (nI FL)), (0, .ref qm), (1, .int (nI n))] → W p l e (headSpec w_Model_gates { frames := 1, cells := 0, slots := 0, locals := 30 }).room s m args below meth c H locs 0 0 Q (F0 m 90 ls [])) :
    ∀ (k : Nat) (i on lg : Nat) (H : Heap) (locs : List Loc) (ls : Array Slot), od < i + k → i ≤ od → lg ≤ 1000 → gt_l go gi bv gl (od - i) i (on, lg) = (FO, FL) → va_P (dC, dI) cl [(qm, .inr (13, [f0, f1, f2, f3, f4, f5, f6, f7, f8, f9, f10, f11, f12, f13, f14, .int (nI nc), f16, .ref q_pinFirst, f18, .ref q_pinOut, f20, f21, f22, f23, f24, f25, f26, f27, f28, f29, f30, f31, f32, f33, f34, f35, f36, f37, f38, f39, f40, f41, f42, f43, f44, .int (bI bd), f46, f47, f48, f49, f50, f51, f52, f53, f54, f55, .int (nI gc), f57, .ref q_gateIn, .ref q_gateLevel, .ref q_gateOrder, .int (nI od), f62, f63, .ref q_bitValue, f65, f66, f67, .int (nI tk), .int (nI bch), f70])), (q_pinFirst, .inl (cI, 18, .inl (nF pf))), (q_pinOut, .inl (cZ, 200, .inl (bF po))), (q_gateOrder, .inl (cI, 300, .inl (nF go))), (q_bitValue, .inl (cI, 8000, .inl (nF bv))), (q_gateIn, .inl (cI, 300, .inl (nF gi))), (q_gateLevel, .inl (cI, 300, .inl (oF gl)))] H → va_D A [(qm, .inr (13, [f0, f1, f2, f3, f4, f5, f6, f7, f8, f9, f10, f11, f12, f13, f14, .int (nI nc), f16, .ref q_pinFirst, f18, .ref q_pinOut, f20, f21, f22, f23, f24, f25, f26, f27, f28, f29, f30, f31, f32, f33, f34, f35, f36, f37, f38, f39, f40, f41, f42, f43, f44, .int (bI bd), f46, f47, f48, f49, f50, f51, f52, f53, f54, f55, .int (nI gc), f57, .ref q_gateIn, .ref q_gateLevel, .ref q_gateOrder, .int (nI od), f62, f63, .ref q_bitValue, f65, f66, f67, .int (nI tk), .int (nI bch), f70])), (q_pinFirst, .inl (cI, 18, .inl (nF pf))), (q_pinOut, .inl (cZ, 200, .inl (bF po))), (q_gateOrder, .inl (cI, 300, .inl (nF go))), (q_bitValue, .inl (cI, 8000, .inl (nF bv))), (q_gateIn, .inl (cI, 300, .inl (nF gi))), (q_gateLevel, .inl (cI, 300, .inl (oF gl)))] → va_S A s.heap H locs → lv_has ls 6 [(4, .int (nI i)), (2, .int (nI on)), (3, .int (nI lg)), (0, .ref qm), (1, .int (nI n))] → W p l e (headSpec w_Model_gates { frames := 1, cells := 0, slots := 0, locals := 30 }).room s m args below meth c H locs 0 0 Q (F0 m 26 ls []) := by
  intro k
  induction k with
  | zero =>
    intro i on lg H locs ls hk hi hlg hr hP hD hS hl
    exfalso; omega
  | succ k ih =>
    intro i on lg H locs ls hk hi hlg hr hP hD hS hl
    refine lv_iload hx hb d_Model_gates_26 (lv_at hl 0 rfl) ?_
    refine lv_aload_n hx hb d_Model_gates_28 rfl (lv_at hl 3 rfl) ?_
    refine va_get (D := (dC, dI)) (ci := 13) (v := .int (nI od)) (C := R_Model) (T := F_Model) (N := 71) hx hb hts i_Model hown hK hP 0 rfl rfl 61 (by decide) (hts _ k_935) (fun _ h9 => h9) rfl d_Model_gates_29 ?_
    refine nv_icmp_ge (tgt := 90) hx hb (by omega) (by omega) d_Model_gates_32 (by decide) (fun c_1 => ?_) (fun c_1 => ?_)
    · have hri : (on, lg) = (FO, FL) := by rw [← hr, gt_l_u, if_neg (by omega)]
      obtain ⟨h1, h2⟩ := Prod.mk.inj hri
      subst h1
      subst h2
      exact kx H locs ls hP hD hS (lv_sub hl [1, 2, 3, 4] rfl)
    · obtain ⟨g1, g2⟩ := hgo i (by omega)
      refine lv_aload_n hx hb d_Model_gates_35 rfl (lv_at hl 3 rfl) ?_
      refine va_get (D := (dC, dI)) (ci := 13) (v := .ref q_gateOrder) (C := R_Model) (T := F_Model) (N := 71) hx hb hts i_Model hown hK hP 0 rfl rfl 60 (by decide) (hts _ k_934) (fun _ h9 => h9) rfl d_Model_gates_36 ?_
      refine lv_iload hx hb d_Model_gates_39 (lv_at hl 0 rfl) ?_
      refine nv_iald hx hb hK hP 3 1 rfl rfl (by omega) (by decide) d_Model_gates_41 ?_
      refine lv_istore (lv' := [(5, .int (nI (go i))), (4, .int (nI i)), (2, .int (nI on)), (3, .int (nI lg)), (0, .ref qm), (1, .int (nI n))]) hx hb d_Model_gates_42 hl (by decide) rfl (fun ls hl => ?_)
      refine lv_iload_n hx hb d_Model_gates_44 rfl (lv_at hl 2 rfl) ?_
      refine lv_aload_n hx hb d_Model_gates_45 rfl (lv_at hl 4 rfl) ?_
      refine va_get (D := (dC, dI)) (ci := 13) (v := .ref q_bitValue) (C := R_Model) (T := F_Model) (N := 71) hx hb hts i_Model hown hK hP 0 rfl rfl 64 (by decide) (hts _ k_938) (fun _ h9 => h9) rfl d_Model_gates_46 ?_
      refine lv_aload_n hx hb d_Model_gates_49 rfl (lv_at hl 4 rfl) ?_
      refine va_get (D := (dC, dI)) (ci := 13) (v := .ref q_gateIn) (C := R_Model) (T := F_Model) (N := 71) hx hb hts i_Model hown hK hP 0 rfl rfl 58 (by decide) (hts _ k_932) (fun _ h9 => h9) rfl d_Model_gates_50 ?_
      refine lv_iload hx hb d_Model_gates_53 (lv_at hl 0 rfl) ?_
      refine nv_iald hx hb hK hP 5 1 rfl rfl (by omega) (by decide) d_Model_gates_55 ?_
      refine lv_iconst (v := nI 2) hx hb d_Model_gates_56 (by decide) ?_
      refine nv_iadd hx hb d_Model_gates_57 ?_
      refine nv_iald hx hb hK hP 4 1 rfl rfl (by omega) (by decide) d_Model_gates_58 ?_
      refine nv_iadd hx hb d_Model_gates_59 ?_
      refine lv_istore_n (lv' := [(2, .int (nI (on + (bv ((gi (go i)) + 2))))), (5, .int (nI (go i))), (4, .int (nI i)), (3, .int (nI lg)), (0, .ref qm), (1, .int (nI n))]) hx hb d_Model_gates_60 rfl hl (by decide) rfl (fun ls hl => ?_)
      refine lv_aload_n hx hb d_Model_gates_61 rfl (lv_at hl 4 rfl) ?_
      refine va_get (D := (dC, dI)) (ci := 13) (v := .ref q_gateLevel) (C := R_Model) (T := F_Model) (N := 71) hx hb hts i_Model hown hK hP 0 rfl rfl 59 (by decide) (hts _ k_933) (fun _ h9 => h9) rfl d_Model_gates_62 ?_
      refine lv_iload hx hb d_Model_gates_65 (lv_at hl 1 rfl) ?_
      refine nv_iald hx hb hK hP 6 1 rfl rfl (by omega) (by decide) d_Model_gates_67 ?_
      refine lv_iload_n hx hb d_Model_gates_68 rfl (lv_at hl 3 rfl) ?_
      refine nv_onicmp_le (tgt := 82) hx hb (fun z9 h9 => by have := hgl _ z9 h9; omega) (by omega) d_Model_gates_69 (by decide) (fun c_2 => ?_) (fun c_2 => ?_)
      · refine lv_iload_n hx hb d_Model_gates_82 rfl (lv_at hl 3 rfl) ?_
        refine lv_istore_n (lv' := [(3, .int (nI lg)), (2, .int (nI (on + (bv ((gi (go i)) + 2))))), (5, .int (nI (go i))), (4, .int (nI i)), (0, .ref qm), (1, .int (nI n))]) hx hb d_Model_gates_83 rfl hl (by decide) rfl (fun ls hl => ?_)
        refine lv_iinc (v := nI (i + 1)) (lv' := [(4, .int (nI (i + 1))), (3, .int (nI lg)), (2, .int (nI (on + (bv ((gi (go i)) + 2))))), (5, .int (nI (go i))), (0, .ref qm), (1, .int (nI n))]) hx hb d_Model_gates_84 hl (k := 3) rfl (nI_1 _) (by decide) rfl (fun ls hl => ?_)
        refine lv_goto (tgt := 26) hx hb d_Model_gates_87 (by decide) ?_
        exact ih (i + 1) (on + bv (gi (go i) + 2)) (lg) H locs ls (by omega) (by omega) hlg (by rw [← hr, gt_l_u _ _ _ _ _ i, if_pos (by omega), show gt_1 gi bv gl (go i) (on, lg) = (on + bv (gi (go i) + 2), lg) by unfold gt_1; rw [if_neg (by cases h9 : gl (go i) with | none => show ¬ lg < 0; omega | some w9 => have := c_2 w9 h9; show ¬ lg < w9; omega)]]) hP hD hS (lv_sub hl [0, 2, 1, 4, 5] rfl)
      · obtain ⟨v, hv, hv1⟩ := c_2
        refine lv_aload_n hx hb d_Model_gates_72 rfl (lv_at hl 4 rfl) ?_
        refine va_get (D := (dC, dI)) (ci := 13) (v := .ref q_gateLevel) (C := R_Model) (T := F_Model) (N := 71) hx hb hts i_Model hown hK hP 0 rfl rfl 59 (by decide) (hts _ k_933) (fun _ h9 => h9) rfl d_Model_gates_73 ?_
        refine lv_iload hx hb d_Model_gates_76 (lv_at hl 1 rfl) ?_
        refine nv_iald hx hb hK hP 6 1 rfl rfl (by omega) (by decide) d_Model_gates_78 ?_
        rw [show oF gl (go i) = nI v from congrArg oI hv]
        refine lv_goto (tgt := 83) hx hb d_Model_gates_79 (by decide) ?_
        refine lv_istore_n (lv' := [(3, .int (nI v)), (2, .int (nI (on + (bv ((gi (go i)) + 2))))), (5, .int (nI (go i))), (4, .int (nI i)), (0, .ref qm), (1, .int (nI n))]) hx hb d_Model_gates_83 rfl hl (by decide) rfl (fun ls hl => ?_)
        refine lv_iinc (v := nI (i + 1)) (lv' := [(4, .int (nI (i + 1))), (3, .int (nI v)), (2, .int (nI (on + (bv ((gi (go i)) + 2))))), (5, .int (nI (go i))), (0, .ref qm), (1, .int (nI n))]) hx hb d_Model_gates_84 hl (k := 3) rfl (nI_1 _) (by decide) rfl (fun ls hl => ?_)
        refine lv_goto (tgt := 26) hx hb d_Model_gates_87 (by decide) ?_
        exact ih (i + 1) (on + bv (gi (go i) + 2)) (v) H locs ls (by omega) (by omega) (by have := hgl (go i) v hv; omega) (by rw [← hr, gt_l_u _ _ _ _ _ i, if_pos (by omega), show gt_1 gi bv gl (go i) (on, lg) = (on + bv (gi (go i) + 2), v) by unfold gt_1; rw [hv]; show (_, if lg < v then v else lg) = _; rw [if_pos hv1]]) hP hD hS (lv_sub hl [0, 2, 1, 4, 5] rfl)
set_option maxHeartbeats 4000000 in
set_option maxRecDepth 100000 in
/-- gates(x) -/
theorem c_Model_gates (l : Launch) (dC : Nat → ClassId) (dI : Nat → Nat → Nat) (cB cI cL cZ cC cO : ClassId) {qm q_pinFirst q_pinOut q_gateOrder q_bitValue q_gateIn q_gateLevel : Nat}{f0 f1 f2 f3 f4 f5 f6 f7 f8 f9 f10 f11 f12 f13 f14 f16 f18 f20 f21 f22 f23 f24 f25 f26 f27 f28 f29 f30 f31 f32 f33 f34 f35 f36 f37 f38 f39 f40 f41 f42 f43 f44 f46 f47 f48 f49 f50 f51 f52 f53 f54 f55 f57 f62 f63 f65 f66 f67 f70 : Value} (bd : Bool) (od gc nc tk bch : Nat) (x : Int32) (pf go bv gi : Nat → Nat) (po : Nat → Bool) (gl : Nat → Option Nat) (sz : Nat) (hod : od ≤ gc) (hgc : gc ≤ 300) (hnc : nc ≤ 8) (hb8 : bch < 8) (hpf : ∀ j, pf j ≤ 200) (hgo : ∀ i, i < od → go i < 300 ∧ gi (go i) + 2 < 8000) (hgl : ∀ i z, gl i = some z → z ≤ 1000) : Met l y_Model_gates w_Model_gates ({ frames := 1, cells := 0, slots := 0, locals := 30 }) (va_Pc [.ref qm, .int x] (wB (dC, dI) cl [(cB, .byte), (cI, .int), (cL, .long), (cZ, .boolean), (cC, .char), (cO, .object "java/lang/Object")] sz [(qm, .inr (13, [f0, f1, f2, f3, f4, f5, f6, f7, f8, f9, f10, f11, f12, f13, f14, .int (nI nc), f16, .ref q_pinFirst, f18, .ref q_pinOut, f20, f21, f22, f23, f24, f25, f26, f27, f28, f29, f30, f31, f32, f33, f34, f35, f36, f37, f38, f39, f40, f41, f42, f43, f44, .int (bI bd), f46, f47, f48, f49, f50, f51, f52, f53, f54, f55, .int (nI gc), f57, .ref q_gateIn, .ref q_gateLevel, .ref q_gateOrder, .int (nI od), f62, f63, .ref q_bitValue, f65, f66, f67, .int (nI tk), .int (nI bch), f70])), (q_pinFirst, .inl (cI, 18, .inl (nF pf))), (q_pinOut, .inl (cZ, 200, .inl (bF po))), (q_gateOrder, .inl (cI, 300, .inl (nF go))), (q_bitValue, .inl (cI, 8000, .inl (nF bv))), (q_gateIn, .inl (cI, 300, .inl (nF gi))), (q_gateLevel, .inl (cI, 300, .inl (oF gl)))])) (va_Qi (fun (r : Int32) (u : Unit) => r = (if bd = true ∧ ¬ x < 0 ∧ x ≤ nI 7 then nI (gsel od gc (m_cp po false (pf (bch + 1) - pf bch) (pf bch) 0) (m_cp po true (pf (bch + 1) - pf bch) (pf bch) 0) nc tk (gt_l go gi bv gl od 0 (0, 0)) x.toNatClampNeg) else -1)) (fun _ t => wA (dC, dI) cl [(cB, .byte), (cI, .int), (cL, .long), (cZ, .boolean), (cC, .char), (cO, .object "java/lang/Object")] (va_A [(qm, .inr (13, [f0, f1, f2, f3, f4, f5, f6, f7, f8, f9, f10, f11, f12, f13, f14, .int (nI nc), f16, .ref q_pinFirst, f18, .ref q_pinOut, f20, f21, f22, f23, f24, f25, f26, f27, f28, f29, f30, f31, f32, f33, f34, f35, f36, f37, f38, f39, f40, f41, f42, f43, f44, .int (bI bd), f46, f47, f48, f49, f50, f51, f52, f53, f54, f55, .int (nI gc), f57, .ref q_gateIn, .ref q_gateLevel, .ref q_gateOrder, .int (nI od), f62, f63, .ref q_bitValue, f65, f66, f67, .int (nI tk), .int (nI bch), f70])), (q_pinFirst, .inl (cI, 18, .inl (nF pf))), (q_pinOut, .inl (cZ, 200, .inl (bF po))), (q_gateOrder, .inl (cI, 300, .inl (nF go))), (q_bitValue, .inl (cI, 8000, .inl (nF bv))), (q_gateIn, .inl (cI, 300, .inl (nF gi))), (q_gateLevel, .inl (cI, 300, .inl (oF gl)))] sz) [(qm, .inr (13, [f0, f1, f2, f3, f4, f5, f6, f7, f8, f9, f10, f11, f12, f13, f14, .int (nI nc), f16, .ref q_pinFirst, f18, .ref q_pinOut, f20, f21, f22, f23, f24, f25, f26, f27, f28, f29, f30, f31, f32, f33, f34, f35, f36, f37, f38, f39, f40, f41, f42, f43, f44, .int (bI bd), f46, f47, f48, f49, f50, f51, f52, f53, f54, f55, .int (nI gc), f57, .ref q_gateIn, .ref q_gateLevel, .ref q_gateOrder, .int (nI od), f62, f63, .ref q_bitValue, f65, f66, f67, .int (nI tk), .int (nI bch), f70])), (q_pinFirst, .inl (cI, 18, .inl (nF pf))), (q_pinOut, .inl (cZ, 200, .inl (bF po))), (q_gateOrder, .inl (cI, 300, .inl (nF go))), (q_bitValue, .inl (cI, 8000, .inl (nF bv))), (q_gateIn, .inl (cI, 300, .inl (nF gi))), (q_gateLevel, .inl (cI, 300, .inl (oF gl)))] t) (va_A [(qm, .inr (13, [f0, f1, f2, f3, f4, f5, f6, f7, f8, f9, f10, f11, f12, f13, f14, .int (nI nc), f16, .ref q_pinFirst, f18, .ref q_pinOut, f20, f21, f22, f23, f24, f25, f26, f27, f28, f29, f30, f31, f32, f33, f34, f35, f36, f37, f38, f39, f40, f41, f42, f43, f44, .int (bI bd), f46, f47, f48, f49, f50, f51, f52, f53, f54, f55, .int (nI gc), f57, .ref q_gateIn, .ref q_gateLevel, .ref q_gateOrder, .int (nI od), f62, f63, .ref q_bitValue, f65, f66, f67, .int (nI tk), .int (nI bch), f70])), (q_pinFirst, .inl (cI, 18, .inl (nF pf))), (q_pinOut, .inl (cZ, 200, .inl (bF po))), (q_gateOrder, .inl (cI, 300, .inl (nF go))), (q_bitValue, .inl (cI, 8000, .inl (nF bv))), (q_gateIn, .inl (cI, 300, .inl (nF gi))), (q_gateLevel, .inl (cI, 300, .inl (oF gl)))] sz)) 0 0 (va_A [(qm, .inr (13, [f0, f1, f2, f3, f4, f5, f6, f7, f8, f9, f10, f11, f12, f13, f14, .int (nI nc), f16, .ref q_pinFirst, f18, .ref q_pinOut, f20, f21, f22, f23, f24, f25, f26, f27, f28, f29, f30, f31, f32, f33, f34, f35, f36, f37, f38, f39, f40, f41, f42, f43, f44, .int (bI bd), f46, f47, f48, f49, f50, f51, f52, f53, f54, f55, .int (nI gc), f57, .ref q_gateIn, .ref q_gateLevel, .ref q_gateOrder, .int (nI od), f62, f63, .ref q_bitValue, f65, f66, f67, .int (nI tk), .int (nI bch), f70])), (q_pinFirst, .inl (cI, 18, .inl (nF pf))), (q_pinOut, .inl (cZ, 200, .inl (bF po))), (q_gateOrder, .inl (cI, 300, .inl (nF go))), (q_bitValue, .inl (cI, 8000, .inl (nF bv))), (q_gateIn, .inl (cI, 300, .inl (nF gi))), (q_gateLevel, .inl (cI, 300, .inl (oF gl)))] sz) := by
  refine Met.ofW (cc := b_Model_gates) (maxL := 6) (ret := (some ClassFile.FieldType.int)) (by decide) rfl ?_
  intro p e s m args below meth c s₁ B hml hv
  obtain ⟨rfl, hsz, hP, hK, hD0, hF⟩ := hv
  have hx := B.exec
  have hb := B.bytes
  have hr := B.returns
  have hts := atoms_spec (ws := w_Model_gates) B.pre
  have hts : ∀ w ∈ tb, w.before _ s = true := fun w h => hts w (List.mem_cons_of_mem _ h)
  have hown : s.vm.findClass R_Model = some m.cls := findClass_of_methodNamed B.named
  have hlocks := B.notSynchronized
  subst hsz
  have hD := hD0.self (sz := s.heap.size)
  generalize hAe : va_A [(qm, .inr (13, [f0, f1, f2, f3, f4, f5, f6, f7, f8, f9, f10, f11, f12, f13, f14, .int (nI nc), f16, .ref q_pinFirst, f18, .ref q_pinOut, f20, f21, f22, f23, f24, f25, f26, f27, f28, f29, f30, f31, f32, f33, f34, f35, f36, f37, f38, f39, f40, f41, f42, f43, f44, .int (bI bd), f46, f47, f48, f49, f50, f51, f52, f53, f54, f55, .int (nI gc), f57, .ref q_gateIn, .ref q_gateLevel, .ref q_gateOrder, .int (nI od), f62, f63, .ref q_bitValue, f65, f66, f67, .int (nI tk), .int (nI bch), f70])), (q_pinFirst, .inl (cI, 18, .inl (nF pf))), (q_pinOut, .inl (cZ, 200, .inl (bF po))), (q_gateOrder, .inl (cI, 300, .inl (nF go))), (q_bitValue, .inl (cI, 8000, .inl (nF bv))), (q_gateIn, .inl (cI, 300, .inl (nF gi))), (q_gateLevel, .inl (cI, 300, .inl (oF gl)))] s.heap.size = A at hD hF ⊢
  have hA : ∀ q : Nat, s.heap.size ≤ q → A q := fun q h => by rw [← hAe]; exact Or.inr h
  have hS : va_S A s.heap s.heap [] := va_S.rf
  have hP : va_P (dC, dI) cl [(qm, .inr (13, [f0, f1, f2, f3, f4, f5, f6, f7, f8, f9, f10, f11, f12, f13, f14, .int (nI nc), f16, .ref q_pinFirst, f18, .ref q_pinOut, f20, f21, f22, f23, f24, f25, f26, f27, f28, f29, f30, f31, f32, f33, f34, f35, f36, f37, f38, f39, f40, f41, f42, f43, f44, .int (bI bd), f46, f47, f48, f49, f50, f51, f52, f53, f54, f55, .int (nI gc), f57, .ref q_gateIn, .ref q_gateLevel, .ref q_gateOrder, .int (nI od), f62, f63, .ref q_bitValue, f65, f66, f67, .int (nI tk), .int (nI bch), f70])), (q_pinFirst, .inl (cI, 18, .inl (nF pf))), (q_pinOut, .inl (cZ, 200, .inl (bF po))), (q_gateOrder, .inl (cI, 300, .inl (nF go))), (q_bitValue, .inl (cI, 8000, .inl (nF bv))), (q_gateIn, .inl (cI, 300, .inl (nF gi))), (q_gateLevel, .inl (cI, 300, .inl (oF gl)))] s.heap := hP
  have hl := lv_entry ([.ref qm, .int x]) (n := 6) (Nat.le_of_ble_eq_true rfl)
  rw [lg_entry_eq]
  generalize (lg_sl ([.ref qm, .int x]) ++ List.replicate (6 - (lg_sl ([.ref qm, .int x])).length) Slot.unset).toArray = ls at hl ⊢
  have hl : lv_has ls 6 [(0, .ref qm), (1, .int x)] := hl
  refine lv_aload_n hx hb d_Model_gates_0 rfl (lv_at hl 0 rfl) ?_
  refine va_get (D := (dC, dI)) (ci := 13) (v := .int (bI bd)) (C := R_Model) (T := F_Model) (N := 71) hx hb hts i_Model hown hK hP 0 rfl rfl 45 (by decide) (hts _ k_919) (fun _ h9 => h9) rfl d_Model_gates_1 ?_
  refine nv_bif_eq (tgt := 17) hx hb d_Model_gates_4 (by decide) (fun c_1 => ?_) (fun c_1 => ?_)
  · refine lv_iconst (v := (-1)) hx hb d_Model_gates_17 (by decide) ?_
    exact wr_i hx hb hr hlocks () (by rw [if_neg (fun q9 => absurd q9.1 (by rw [c_1]; decide))]) hK hP hD hS d_Model_gates_18
  · refine lv_iload_n hx hb d_Model_gates_7 rfl (lv_at hl 1 rfl) ?_
    refine lv_if_lt (tgt := 17) hx hb d_Model_gates_8 (by decide) (fun c_2 => ?_) (fun c_2 => ?_)
    · refine lv_iconst (v := (-1)) hx hb d_Model_gates_17 (by decide) ?_
      exact wr_i hx hb hr hlocks () (by rw [if_neg (fun q9 => q9.2.1 c_2)]) hK hP hD hS d_Model_gates_18
    · refine lv_iload_n hx hb d_Model_gates_11 rfl (lv_at hl 1 rfl) ?_
      refine lv_bipush (v := nI 7) hx hb d_Model_gates_12 (by decide) ?_
      refine lv_icmp_le (tgt := 19) hx hb d_Model_gates_14 (by decide) (fun c_3 => ?_) (fun c_3 => ?_)
      · have hok : bd = true ∧ ¬ x < 0 ∧ x ≤ nI 7 := ⟨c_1, c_2, c_3⟩
        obtain ⟨n, hn, hxn⟩ := nI_of2 (M := nI 7) (n := 7) (by decide) hok.2.1 hok.2.2
        subst hxn
        have hcl : (nI n).toNatClampNeg = n := nI_clamp (by omega)
        refine lv_iconst (v := nI 0) hx hb d_Model_gates_19 (by decide) ?_
        refine lv_istore_n (lv' := [(2, .int (nI 0)), (0, .ref qm), (1, .int (nI n))]) hx hb d_Model_gates_20 rfl hl (by decide) rfl (fun ls hl => ?_)
        refine lv_iconst (v := nI 0) hx hb d_Model_gates_21 (by decide) ?_
        refine lv_istore_n (lv' := [(3, .int (nI 0)), (2, .int (nI 0)), (0, .ref qm), (1, .int (nI n))]) hx hb d_Model_gates_22 rfl hl (by decide) rfl (fun ls hl => ?_)
        refine lv_iconst (v := nI 0) hx hb d_Model_gates_23 (by decide) ?_
        refine lv_istore (lv' := [(4, .int (nI 0)), (3, .int (nI 0)), (2, .int (nI 0)), (0, .ref qm), (1, .int (nI n))]) hx hb d_Model_gates_24 hl (by decide) rfl (fun ls hl => ?_)
        refine lp_Model_gates (FO := (gt_l go gi bv gl od 0 (0, 0)).1) (FL := (gt_l go gi bv gl od 0 (0, 0)).2) hod hgc hnc hb8 hpf hgo hgl hx hb hml hown hts hA hF hK (fun H locs ls hP hD hS hl => ?_) 301 0 0 0 _ _ ls (by omega) (by omega) (by omega) rfl hP hD hS (lv_sub hl [0, 2, 1, 3, 4] rfl)
        rcases (show n = 0 ∨ n = 1 ∨ n = 2 ∨ n = 3 ∨ n = 4 ∨ n = 5 ∨ n = 6 ∨ n = 7 by omega) with hn0 | hn0 | hn0 | hn0 | hn0 | hn0 | hn0 | hn0
        · subst hn0
          refine lv_iload_n hx hb d_Model_gates_90 rfl (lv_at hl 3 rfl) ?_
          refine lv_tableIn (off := 41) (tgt := 132) hx hb d_Model_gates_91 (by decide) (by decide) (by decide) (by decide) ?_
          refine lv_aload_n hx hb d_Model_gates_132 rfl (lv_at hl 2 rfl) ?_
          refine va_get (D := (dC, dI)) (ci := 13) (v := .int (nI od)) (C := R_Model) (T := F_Model) (N := 71) hx hb hts i_Model hown hK hP 0 rfl rfl 61 (by decide) (hts _ k_935) (fun _ h9 => h9) rfl d_Model_gates_133 ?_
          exact wr_i hx hb hr hlocks () (by rw [if_pos hok, hcl]; rfl) hK hP hD hS d_Model_gates_136
        · subst hn0
          refine lv_iload_n hx hb d_Model_gates_90 rfl (lv_at hl 3 rfl) ?_
          refine lv_tableIn (off := 46) (tgt := 137) hx hb d_Model_gates_91 (by decide) (by decide) (by decide) (by decide) ?_
          refine lv_aload_n hx hb d_Model_gates_137 rfl (lv_at hl 2 rfl) ?_
          refine va_get (D := (dC, dI)) (ci := 13) (v := .int (nI gc)) (C := R_Model) (T := F_Model) (N := 71) hx hb hts i_Model hown hK hP 0 rfl rfl 56 (by decide) (hts _ k_930) (fun _ h9 => h9) rfl d_Model_gates_138 ?_
          refine lv_aload_n hx hb d_Model_gates_141 rfl (lv_at hl 2 rfl) ?_
          refine va_get (D := (dC, dI)) (ci := 13) (v := .int (nI od)) (C := R_Model) (T := F_Model) (N := 71) hx hb hts i_Model hown hK hP 0 rfl rfl 61 (by decide) (hts _ k_935) (fun _ h9 => h9) rfl d_Model_gates_142 ?_
          refine nv_isub hx hb (by omega) d_Model_gates_145 ?_
          exact wr_i hx hb hr hlocks () (by rw [if_pos hok, hcl]; rfl) hK hP hD hS d_Model_gates_146
        · subst hn0
          refine lv_iload_n hx hb d_Model_gates_90 rfl (lv_at hl 3 rfl) ?_
          refine lv_tableIn (off := 56) (tgt := 147) hx hb d_Model_gates_91 (by decide) (by decide) (by decide) (by decide) ?_
          refine lv_aload_n hx hb d_Model_gates_147 rfl (lv_at hl 2 rfl) ?_
          refine lv_iconst (v := nI 0) hx hb d_Model_gates_148 (by decide) ?_
          refine wc_i (wc := [(qm, .inr (13, [f0, f1, f2, f3, f4, f5, f6, f7, f8, f9, f10, f11, f12, f13, f14, .int (nI nc), f16, .ref q_pinFirst, f18, .ref q_pinOut, f20, f21, f22, f23, f24, f25, f26, f27, f28, f29, f30, f31, f32, f33, f34, f35, f36, f37, f38, f39, f40, f41, f42, f43, f44, .int (bI bd), f46, f47, f48, f49, f50, f51, f52, f53, f54, f55, .int (nI gc), f57, .ref q_gateIn, .ref q_gateLevel, .ref q_gateOrder, .int (nI od), f62, f63, .ref q_bitValue, f65, f66, f67, .int (nI tk), .int (nI bch), f70])), (q_pinFirst, .inl (cI, 18, .inl (nF pf))), (q_pinOut, .inl (cZ, 200, .inl (bF po)))]) (wr := [(q_gateOrder, .inl (cI, 300, .inl (nF go))), (q_bitValue, .inl (cI, 8000, .inl (nF bv))), (q_gateIn, .inl (cI, 300, .inl (nF gi))), (q_gateLevel, .inl (cI, 300, .inl (oF gl)))]) (va_runV (As := [.int (nI 0)]) (rest := []) ⟨hx, hb, hml, hown, hts⟩ (c_Model_countPins l dC dI cB cI cL cZ cC cO bch pf po false _ hb8 hpf) (cwV 1 hts (good_V k_1351 k_1353 s_Model_countPins k_19 k_1354) rfl rfl rfl (by decide +kernel) ⟨Nat.le_of_ble_eq_true rfl, Nat.le_of_ble_eq_true rfl⟩) (wc_preV (k0 := 0) (ci := 13) (r := (R_Model, F_Model, 71)) hK hP hD hS hA hF [0, 1, 2] (by decide) rfl rfl rfl) rfl rfl hl.1 rfl (lv_room (Nat.le_of_ble_eq_true rfl)) d_Model_gates_149 ⟨Nat.le_of_ble_eq_true rfl, Nat.le_of_ble_eq_true rfl⟩) hP hD hS hA [0, 1, 2] [3, 4, 5, 6] rfl rfl (by decide) (by decide) (fun r_5 u H locs w_4 hP hD hS => ?_)
          have hP : va_P (dC, dI) cl [(q_gateOrder, .inl (cI, 300, .inl (nF go))), (q_bitValue, .inl (cI, 8000, .inl (nF bv))), (q_gateIn, .inl (cI, 300, .inl (nF gi))), (q_gateLevel, .inl (cI, 300, .inl (oF gl))), (qm, .inr (13, [f0, f1, f2, f3, f4, f5, f6, f7, f8, f9, f10, f11, f12, f13, f14, .int (nI nc), f16, .ref q_pinFirst, f18, .ref q_pinOut, f20, f21, f22, f23, f24, f25, f26, f27, f28, f29, f30, f31, f32, f33, f34, f35, f36, f37, f38, f39, f40, f41, f42, f43, f44, .int (bI bd), f46, f47, f48, f49, f50, f51, f52, f53, f54, f55, .int (nI gc), f57, .ref q_gateIn, .ref q_gateLevel, .ref q_gateOrder, .int (nI od), f62, f63, .ref q_bitValue, f65, f66, f67, .int (nI tk), .int (nI bch), f70])), (q_pinFirst, .inl (cI, 18, .inl (nF pf))), (q_pinOut, .inl (cZ, 200, .inl (bF po)))] H := hP
          have hD : va_D A [(q_gateOrder, .inl (cI, 300, .inl (nF go))), (q_bitValue, .inl (cI, 8000, .inl (nF bv))), (q_gateIn, .inl (cI, 300, .inl (nF gi))), (q_gateLevel, .inl (cI, 300, .inl (oF gl))), (qm, .inr (13, [f0, f1, f2, f3, f4, f5, f6, f7, f8, f9, f10, f11, f12, f13, f14, .int (nI nc), f16, .ref q_pinFirst, f18, .ref q_pinOut, f20, f21, f22, f23, f24, f25, f26, f27, f28, f29, f30, f31, f32, f33, f34, f35, f36, f37, f38, f39, f40, f41, f42, f43, f44, .int (bI bd), f46, f47, f48, f49, f50, f51, f52, f53, f54, f55, .int (nI gc), f57, .ref q_gateIn, .ref q_gateLevel, .ref q_gateOrder, .int (nI od), f62, f63, .ref q_bitValue, f65, f66, f67, .int (nI tk), .int (nI bch), f70])), (q_pinFirst, .inl (cI, 18, .inl (nF pf))), (q_pinOut, .inl (cZ, 200, .inl (bF po)))] := hD
          subst w_4
          exact wr_i hx hb hr hlocks () (by rw [if_pos hok, hcl]; rfl) hK (hP.sub [4, 5, 6, 0, 1, 2, 3] rfl) (hD.sub [4, 5, 6, 0, 1, 2, 3] (by decide) rfl) hS d_Model_gates_152
        · subst hn0
          refine lv_iload_n hx hb d_Model_gates_90 rfl (lv_at hl 3 rfl) ?_
          refine lv_tableIn (off := 62) (tgt := 153) hx hb d_Model_gates_91 (by decide) (by decide) (by decide) (by decide) ?_
          refine lv_aload_n hx hb d_Model_gates_153 rfl (lv_at hl 2 rfl) ?_
          refine lv_iconst (v := nI 1) hx hb d_Model_gates_154 (by decide) ?_
          refine wc_i (wc := [(qm, .inr (13, [f0, f1, f2, f3, f4, f5, f6, f7, f8, f9, f10, f11, f12, f13, f14, .int (nI nc), f16, .ref q_pinFirst, f18, .ref q_pinOut, f20, f21, f22, f23, f24, f25, f26, f27, f28, f29, f30, f31, f32, f33, f34, f35, f36, f37, f38, f39, f40, f41, f42, f43, f44, .int (bI bd), f46, f47, f48, f49, f50, f51, f52, f53, f54, f55, .int (nI gc), f57, .ref q_gateIn, .ref q_gateLevel, .ref q_gateOrder, .int (nI od), f62, f63, .ref q_bitValue, f65, f66, f67, .int (nI tk), .int (nI bch), f70])), (q_pinFirst, .inl (cI, 18, .inl (nF pf))), (q_pinOut, .inl (cZ, 200, .inl (bF po)))]) (wr := [(q_gateOrder, .inl (cI, 300, .inl (nF go))), (q_bitValue, .inl (cI, 8000, .inl (nF bv))), (q_gateIn, .inl (cI, 300, .inl (nF gi))), (q_gateLevel, .inl (cI, 300, .inl (oF gl)))]) (va_runV (As := [.int (nI 1)]) (rest := []) ⟨hx, hb, hml, hown, hts⟩ (c_Model_countPins l dC dI cB cI cL cZ cC cO bch pf po true _ hb8 hpf) (cwV 1 hts (good_V k_1351 k_1353 s_Model_countPins k_19 k_1354) rfl rfl rfl (by decide +kernel) ⟨Nat.le_of_ble_eq_true rfl, Nat.le_of_ble_eq_true rfl⟩) (wc_preV (k0 := 0) (ci := 13) (r := (R_Model, F_Model, 71)) hK hP hD hS hA hF [0, 1, 2] (by decide) rfl rfl rfl) rfl rfl hl.1 rfl (lv_room (Nat.le_of_ble_eq_true rfl)) d_Model_gates_155 ⟨Nat.le_of_ble_eq_true rfl, Nat.le_of_ble_eq_true rfl⟩) hP hD hS hA [0, 1, 2] [3, 4, 5, 6] rfl rfl (by decide) (by decide) (fun r_7 u H locs w_6 hP hD hS => ?_)
          have hP : va_P (dC, dI) cl [(q_gateOrder, .inl (cI, 300, .inl (nF go))), (q_bitValue, .inl (cI, 8000, .inl (nF bv))), (q_gateIn, .inl (cI, 300, .inl (nF gi))), (q_gateLevel, .inl (cI, 300, .inl (oF gl))), (qm, .inr (13, [f0, f1, f2, f3, f4, f5, f6, f7, f8, f9, f10, f11, f12, f13, f14, .int (nI nc), f16, .ref q_pinFirst, f18, .ref q_pinOut, f20, f21, f22, f23, f24, f25, f26, f27, f28, f29, f30, f31, f32, f33, f34, f35, f36, f37, f38, f39, f40, f41, f42, f43, f44, .int (bI bd), f46, f47, f48, f49, f50, f51, f52, f53, f54, f55, .int (nI gc), f57, .ref q_gateIn, .ref q_gateLevel, .ref q_gateOrder, .int (nI od), f62, f63, .ref q_bitValue, f65, f66, f67, .int (nI tk), .int (nI bch), f70])), (q_pinFirst, .inl (cI, 18, .inl (nF pf))), (q_pinOut, .inl (cZ, 200, .inl (bF po)))] H := hP
          have hD : va_D A [(q_gateOrder, .inl (cI, 300, .inl (nF go))), (q_bitValue, .inl (cI, 8000, .inl (nF bv))), (q_gateIn, .inl (cI, 300, .inl (nF gi))), (q_gateLevel, .inl (cI, 300, .inl (oF gl))), (qm, .inr (13, [f0, f1, f2, f3, f4, f5, f6, f7, f8, f9, f10, f11, f12, f13, f14, .int (nI nc), f16, .ref q_pinFirst, f18, .ref q_pinOut, f20, f21, f22, f23, f24, f25, f26, f27, f28, f29, f30, f31, f32, f33, f34, f35, f36, f37, f38, f39, f40, f41, f42, f43, f44, .int (bI bd), f46, f47, f48, f49, f50, f51, f52, f53, f54, f55, .int (nI gc), f57, .ref q_gateIn, .ref q_gateLevel, .ref q_gateOrder, .int (nI od), f62, f63, .ref q_bitValue, f65, f66, f67, .int (nI tk), .int (nI bch), f70])), (q_pinFirst, .inl (cI, 18, .inl (nF pf))), (q_pinOut, .inl (cZ, 200, .inl (bF po)))] := hD
          subst w_6
          exact wr_i hx hb hr hlocks () (by rw [if_pos hok, hcl]; rfl) hK (hP.sub [4, 5, 6, 0, 1, 2, 3] rfl) (hD.sub [4, 5, 6, 0, 1, 2, 3] (by decide) rfl) hS d_Model_gates_158
        · subst hn0
          refine lv_iload_n hx hb d_Model_gates_90 rfl (lv_at hl 3 rfl) ?_
          refine lv_tableIn (off := 68) (tgt := 159) hx hb d_Model_gates_91 (by decide) (by decide) (by decide) (by decide) ?_
          refine lv_aload_n hx hb d_Model_gates_159 rfl (lv_at hl 2 rfl) ?_
          refine va_get (D := (dC, dI)) (ci := 13) (v := .int (nI nc)) (C := R_Model) (T := F_Model) (N := 71) hx hb hts i_Model hown hK hP 0 rfl rfl 15 (by decide) (hts _ k_889) (fun _ h9 => h9) rfl d_Model_gates_160 ?_
          exact wr_i hx hb hr hlocks () (by rw [if_pos hok, hcl]; rfl) hK hP hD hS d_Model_gates_163
        · subst hn0
          refine lv_iload_n hx hb d_Model_gates_90 rfl (lv_at hl 3 rfl) ?_
          refine lv_tableIn (off := 73) (tgt := 164) hx hb d_Model_gates_91 (by decide) (by decide) (by decide) (by decide) ?_
          refine lv_iload_n hx hb d_Model_gates_164 rfl (lv_at hl 1 rfl) ?_
          exact wr_i hx hb hr hlocks () (by rw [if_pos hok, hcl]; rfl) hK hP hD hS d_Model_gates_165
        · subst hn0
          refine lv_iload_n hx hb d_Model_gates_90 rfl (lv_at hl 3 rfl) ?_
          refine lv_tableIn (off := 75) (tgt := 166) hx hb d_Model_gates_91 (by decide) (by decide) (by decide) (by decide) ?_
          refine lv_aload_n hx hb d_Model_gates_166 rfl (lv_at hl 2 rfl) ?_
          refine va_get (D := (dC, dI)) (ci := 13) (v := .int (nI tk)) (C := R_Model) (T := F_Model) (N := 71) hx hb hts i_Model hown hK hP 0 rfl rfl 68 (by decide) (hts _ k_942) (fun _ h9 => h9) rfl d_Model_gates_167 ?_
          exact wr_i hx hb hr hlocks () (by rw [if_pos hok, hcl]; rfl) hK hP hD hS d_Model_gates_170
        · subst hn0
          refine lv_iload_n hx hb d_Model_gates_90 rfl (lv_at hl 3 rfl) ?_
          refine lv_tableOut (tgt := 171) hx hb d_Model_gates_91 (by decide) (by decide) ?_
          refine lv_iload_n hx hb d_Model_gates_171 rfl (lv_at hl 0 rfl) ?_
          exact wr_i hx hb hr hlocks () (by rw [if_pos hok, hcl]; rfl) hK hP hD hS d_Model_gates_172
      · refine lv_iconst (v := (-1)) hx hb d_Model_gates_17 (by decide) ?_
        exact wr_i hx hb hr hlocks () (by rw [if_neg (fun q9 => c_3 q9.2.2)]) hK hP hD hS d_Model_gates_18
