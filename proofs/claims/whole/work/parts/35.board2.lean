def bd_nx (fi : Nat → Nat) (va : Nat → Bool) : Nat → Nat → (Nat → Bool) → (Nat → Bool)
  | 0, _, x => x
  | k + 1, i, x => bd_nx fi va k (i + 1) (va_up x i (va (fi i)))
theorem bd_nx_u (fi : Nat → Nat) (va : Nat → Bool) (n i : Nat) (x : Nat → Bool) : bd_nx fi va (n - i) i x = if i < n then bd_nx fi va (n - (i + 1)) (i + 1) (va_up x i (va (fi i))) else x := by
  by_cases h : i < n
  · rw [if_pos h, show n - i = (n - (i + 1)) + 1 by omega]; rfl
  · rw [if_neg h, show n - i = 0 by omega]; rfl
def bd_tk (isd nx : Nat → Bool) (fg : Nat) : Nat → Nat → (Nat → Bool) × Nat → (Nat → Bool) × Nat
  | 0, _, S => S
  | k + 1, i, S => bd_tk isd nx fg k (i + 1) (if isd i = true ∧ S.1 (fg + i) ≠ nx i then (va_up S.1 (fg + i) (nx i), S.2 + 1) else S)
theorem bd_tk_u (isd nx : Nat → Bool) (fg n i : Nat) (S : (Nat → Bool) × Nat) : bd_tk isd nx fg (n - i) i S = if i < n then bd_tk isd nx fg (n - (i + 1)) (i + 1) (if isd i = true ∧ S.1 (fg + i) ≠ nx i then (va_up S.1 (fg + i) (nx i), S.2 + 1) else S) else S := by
  by_cases h : i < n
  · rw [if_pos h, show n - i = (n - (i + 1)) + 1 by omega]; rfl
  · rw [if_neg h, show n - i = 0 by omega]; rfl
theorem bd_tk_le (isd nx : Nat → Bool) (fg : Nat) : ∀ k i S, (bd_tk isd nx fg k i S).2 ≤ S.2 + k
  | 0, _, S => Nat.le_refl _
  | k + 1, i, S => by
    show (bd_tk isd nx fg k (i + 1) (if isd i = true ∧ S.1 (fg + i) ≠ nx i then (va_up S.1 (fg + i) (nx i), S.2 + 1) else S)).2 ≤ S.2 + (k + 1)
    split
    · have := bd_tk_le isd nx fg k (i + 1) (va_up S.1 (fg + i) (nx i), S.2 + 1); simp only at this; omega
    · have := bd_tk_le isd nx fg k (i + 1) S; omega
theorem d_Board_step_0 : decode b_Board_step 0 = .ok (.aload_n 0, 1) := by decide +kernel
theorem d_Board_step_1 : decode b_Board_step 1 = .ok (.getfield 13, 3) := by decide +kernel
theorem d_Board_step_4 : decode b_Board_step 4 = .ok (.ifnonnull 5, 3) := by decide +kernel
theorem d_Board_step_7 : decode b_Board_step 7 = .ok (.iconst (-1), 1) := by decide +kernel
theorem d_Board_step_8 : decode b_Board_step 8 = .ok (.ireturn, 1) := by decide +kernel
theorem d_Board_step_9 : decode b_Board_step 9 = .ok (.iconst 0, 1) := by decide +kernel
theorem d_Board_step_10 : decode b_Board_step 10 = .ok (.istore_n 1, 1) := by decide +kernel
theorem d_Board_step_11 : decode b_Board_step 11 = .ok (.iload_n 1, 1) := by decide +kernel
theorem d_Board_step_12 : decode b_Board_step 12 = .ok (.aload_n 0, 1) := by decide +kernel
theorem d_Board_step_13 : decode b_Board_step 13 = .ok (.getfield 38, 3) := by decide +kernel
theorem d_Board_step_16 : decode b_Board_step 16 = .ok (.if_icmp .ge 26, 3) := by decide +kernel
theorem d_Board_step_19 : decode b_Board_step 19 = .ok (.aload_n 0, 1) := by decide +kernel
theorem d_Board_step_20 : decode b_Board_step 20 = .ok (.getfield 65, 3) := by decide +kernel
theorem d_Board_step_23 : decode b_Board_step 23 = .ok (.iload_n 1, 1) := by decide +kernel
theorem d_Board_step_24 : decode b_Board_step 24 = .ok (.aload_n 0, 1) := by decide +kernel
theorem d_Board_step_25 : decode b_Board_step 25 = .ok (.getfield 47, 3) := by decide +kernel
theorem d_Board_step_28 : decode b_Board_step 28 = .ok (.aload_n 0, 1) := by decide +kernel
theorem d_Board_step_29 : decode b_Board_step 29 = .ok (.getfield 32, 3) := by decide +kernel
theorem d_Board_step_32 : decode b_Board_step 32 = .ok (.iload_n 1, 1) := by decide +kernel
theorem d_Board_step_33 : decode b_Board_step 33 = .ok (.iaload, 1) := by decide +kernel
theorem d_Board_step_34 : decode b_Board_step 34 = .ok (.baload, 1) := by decide +kernel
theorem d_Board_step_35 : decode b_Board_step 35 = .ok (.bastore, 1) := by decide +kernel
theorem d_Board_step_36 : decode b_Board_step 36 = .ok (.iinc 1 1, 3) := by decide +kernel
theorem d_Board_step_39 : decode b_Board_step 39 = .ok (.goto (-28), 3) := by decide +kernel
theorem d_Board_step_42 : decode b_Board_step 42 = .ok (.iconst 0, 1) := by decide +kernel
theorem d_Board_step_43 : decode b_Board_step 43 = .ok (.istore_n 1, 1) := by decide +kernel
theorem d_Board_step_44 : decode b_Board_step 44 = .ok (.iconst 0, 1) := by decide +kernel
theorem d_Board_step_45 : decode b_Board_step 45 = .ok (.istore_n 2, 1) := by decide +kernel
theorem d_Board_step_46 : decode b_Board_step 46 = .ok (.iload_n 2, 1) := by decide +kernel
theorem d_Board_step_47 : decode b_Board_step 47 = .ok (.aload_n 0, 1) := by decide +kernel
theorem d_Board_step_48 : decode b_Board_step 48 = .ok (.getfield 38, 3) := by decide +kernel
theorem d_Board_step_51 : decode b_Board_step 51 = .ok (.if_icmp .ge 58, 3) := by decide +kernel
theorem d_Board_step_54 : decode b_Board_step 54 = .ok (.aload_n 0, 1) := by decide +kernel
theorem d_Board_step_55 : decode b_Board_step 55 = .ok (.getfield 28, 3) := by decide +kernel
theorem d_Board_step_58 : decode b_Board_step 58 = .ok (.iload_n 2, 1) := by decide +kernel
theorem d_Board_step_59 : decode b_Board_step 59 = .ok (.baload, 1) := by decide +kernel
theorem d_Board_step_60 : decode b_Board_step 60 = .ok (.ifCond .eq 43, 3) := by decide +kernel
theorem d_Board_step_63 : decode b_Board_step 63 = .ok (.aload_n 0, 1) := by decide +kernel
theorem d_Board_step_64 : decode b_Board_step 64 = .ok (.getfield 47, 3) := by decide +kernel
theorem d_Board_step_67 : decode b_Board_step 67 = .ok (.aload_n 0, 1) := by decide +kernel
theorem d_Board_step_68 : decode b_Board_step 68 = .ok (.getfield 44, 3) := by decide +kernel
theorem d_Board_step_71 : decode b_Board_step 71 = .ok (.iload_n 2, 1) := by decide +kernel
theorem d_Board_step_72 : decode b_Board_step 72 = .ok (.iadd, 1) := by decide +kernel
theorem d_Board_step_73 : decode b_Board_step 73 = .ok (.baload, 1) := by decide +kernel
theorem d_Board_step_74 : decode b_Board_step 74 = .ok (.aload_n 0, 1) := by decide +kernel
theorem d_Board_step_75 : decode b_Board_step 75 = .ok (.getfield 65, 3) := by decide +kernel
theorem d_Board_step_78 : decode b_Board_step 78 = .ok (.iload_n 2, 1) := by decide +kernel
theorem d_Board_step_79 : decode b_Board_step 79 = .ok (.baload, 1) := by decide +kernel
theorem d_Board_step_80 : decode b_Board_step 80 = .ok (.if_icmp .eq 23, 3) := by decide +kernel
theorem d_Board_step_83 : decode b_Board_step 83 = .ok (.aload_n 0, 1) := by decide +kernel
theorem d_Board_step_84 : decode b_Board_step 84 = .ok (.getfield 47, 3) := by decide +kernel
theorem d_Board_step_87 : decode b_Board_step 87 = .ok (.aload_n 0, 1) := by decide +kernel
theorem d_Board_step_88 : decode b_Board_step 88 = .ok (.getfield 44, 3) := by decide +kernel
theorem d_Board_step_91 : decode b_Board_step 91 = .ok (.iload_n 2, 1) := by decide +kernel
theorem d_Board_step_92 : decode b_Board_step 92 = .ok (.iadd, 1) := by decide +kernel
theorem d_Board_step_93 : decode b_Board_step 93 = .ok (.aload_n 0, 1) := by decide +kernel
theorem d_Board_step_94 : decode b_Board_step 94 = .ok (.getfield 65, 3) := by decide +kernel
theorem d_Board_step_97 : decode b_Board_step 97 = .ok (.iload_n 2, 1) := by decide +kernel
theorem d_Board_step_98 : decode b_Board_step 98 = .ok (.baload, 1) := by decide +kernel
theorem d_Board_step_99 : decode b_Board_step 99 = .ok (.bastore, 1) := by decide +kernel
theorem d_Board_step_100 : decode b_Board_step 100 = .ok (.iinc 1 1, 3) := by decide +kernel
theorem d_Board_step_103 : decode b_Board_step 103 = .ok (.iinc 2 1, 3) := by decide +kernel
theorem d_Board_step_106 : decode b_Board_step 106 = .ok (.goto (-60), 3) := by decide +kernel
theorem d_Board_step_109 : decode b_Board_step 109 = .ok (.aload_n 0, 1) := by decide +kernel
theorem d_Board_step_110 : decode b_Board_step 110 = .ok (.dup, 1) := by decide +kernel
theorem d_Board_step_111 : decode b_Board_step 111 = .ok (.getfield 68, 3) := by decide +kernel
theorem d_Board_step_114 : decode b_Board_step 114 = .ok (.iconst 1, 1) := by decide +kernel
theorem d_Board_step_115 : decode b_Board_step 115 = .ok (.iadd, 1) := by decide +kernel
theorem d_Board_step_116 : decode b_Board_step 116 = .ok (.putfield 68, 3) := by decide +kernel
theorem d_Board_step_119 : decode b_Board_step 119 = .ok (.aload_n 0, 1) := by decide +kernel
theorem d_Board_step_120 : decode b_Board_step 120 = .ok (.invokevirtual 96, 3) := by decide +kernel
theorem d_Board_step_123 : decode b_Board_step 123 = .ok (.iload_n 1, 1) := by decide +kernel
theorem d_Board_step_124 : decode b_Board_step 124 = .ok (.ireturn, 1) := by decide +kernel
set_option maxHeartbeats 4000000 in
set_option maxRecDepth 100000 in
theorem lp_Board_step1 {p : Program} {l : Launch} {e : Env} {s : State} {m : MethodId} {args : Array Value} {below : List Frame} {meth : Method} {c : Code} {Q : State → Prop} {A : Nat → Prop} {dC : Nat → ClassId} {dI : Nat → Nat → Nat} {cB cI cL cZ cC cO : ClassId} {qd qc a_isDff a_firstIn a_secondIn a_value a_order a_next : Nat}{f1 f2 f3 f8 f11 f12 f15 : Value} {f18 : Value} {fi si od : Nat → Nat} {isd : Nat → Bool} {fg no ng tc : Nat} {va F : Nat → Bool} (hng : ng ≤ 300) (hno : no ≤ 300) (hod : ∀ i, od i < 300) (hfi : ∀ x, fi x < 430) (hsi : ∀ x, si x < 430) (hfg : fg ≤ 130) (hx : p.tables.exec = Jvm.exec) (hb : c.code = b_Board_step) (hml : c.maxLocals = 3) (hown : s.vm.findClass R_Board = some m.cls) (hts : ∀ w ∈ tb, w.before args s = true) (hA : ∀ q, s.heap.size ≤ q → A q) (hF : stF A s) (hK : va_K (dC, dI) cl [(cB, .byte), (cI, .int), (cL, .long), (cZ, .boolean), (cC, .char), (cO, .object "java/lang/Object")] s)
    (kx : ∀  (H : Heap) (locs : List Loc) (ls : Array Slot), va_P (dC, dI) cl [(qd, .inr (9, [.ref qc, f1, f2, f3, .ref a_isDff, .ref a_firstIn, .ref a_secondIn, .int (nI ng), f8, .int (nI fg), .ref a_value, f11, f12, .ref a_order, .int (nI no), f15, .ref a_next, .int (nI tc), f18])), (a_isDff, .inl (cZ, 300, .inl (bF isd))), (a_firstIn, .inl (cI, 300, .inl (nF fi))), (a_secondIn, .inl (cI, 300, .inl (nF si))), (a_value, .inl (cZ, 430, .inl (bF va))), (a_order, .inl (cI, 300, .inl (nF od))), (a_next, .inl (cZ, 300, .inl (bF F)))] H → va_D A [(qd, .inr (9, [.ref qc, f1, f2, f3, .ref a_isDff, .ref a_firstIn, .ref a_secondIn, .int (nI ng), f8, .int (nI fg), .ref a_value, f11, f12, .ref a_order, .int (nI no), f15, .ref a_next, .int (nI tc), f18])), (a_isDff, .inl (cZ, 300, .inl (bF isd))), (a_firstIn, .inl (cI, 300, .inl (nF fi))), (a_secondIn, .inl (cI, 300, .inl (nF si))), (a_value, .inl (cZ, 430, .inl (bF va))), (a_order, .inl (cI, 300, .inl (nF od))), (a_next, .inl (cZ, 300, .inl (bF F)))] → va_S A s.heap H locs → lv_has ls 3 [(0, .ref qd)] → W p l e (headSpec w_Board_step { frames := 1, cells := 0, slots := 0, locals := 30 }).room s m args below meth c H locs 0 0 Q (F0 m 42 ls [])) :
    ∀ (k : Nat) (i : Nat) (nx : Nat → Bool) (H : Heap) (locs : List Loc) (ls : Array Slot), ng < i + k → i ≤ ng → bd_nx fi va (ng - i) i nx = F → va_P (dC, dI) cl [(qd, .inr (9, [.ref qc, f1, f2, f3, .ref a_isDff, .ref a_firstIn, .ref a_secondIn, .int (nI ng), f8, .int (nI fg), .ref a_value, f11, f12, .ref a_order, .int (nI no), f15, .ref a_next, .int (nI tc), f18])), (a_isDff, .inl (cZ, 300, .inl (bF isd))), (a_firstIn, .inl (cI, 300, .inl (nF fi))), (a_secondIn, .inl (cI, 300, .inl (nF si))), (a_value, .inl (cZ, 430, .inl (bF va))), (a_order, .inl (cI, 300, .inl (nF od))), (a_next, .inl (cZ, 300, .inl (bF nx)))] H → va_D A [(qd, .inr (9, [.ref qc, f1, f2, f3, .ref a_isDff, .ref a_firstIn, .ref a_secondIn, .int (nI ng), f8, .int (nI fg), .ref a_value, f11, f12, .ref a_order, .int (nI no), f15, .ref a_next, .int (nI tc), f18])), (a_isDff, .inl (cZ, 300, .inl (bF isd))), (a_firstIn, .inl (cI, 300, .inl (nF fi))), (a_secondIn, .inl (cI, 300, .inl (nF si))), (a_value, .inl (cZ, 430, .inl (bF va))), (a_order, .inl (cI, 300, .inl (nF od))), (a_next, .inl (cZ, 300, .inl (bF nx)))] → va_S A s.heap H locs → lv_has ls 3 [(1, .int (nI i)), (0, .ref qd)] → W p l e (headSpec w_Board_step { frames := 1, cells := 0, slots := 0, locals := 30 }).room s m args below meth c H locs 0 0 Q (F0 m 11 ls []) := by
  intro k
  induction k with
  | zero =>
    intro i nx H locs ls hk hi hr hP hD hS hl
    exfalso; omega
  | succ k ih =>
    intro i nx H locs ls hk hi hr hP hD hS hl
    refine lv_iload_n hx hb d_Board_step_11 rfl (lv_at hl 0 rfl) ?_
    refine lv_aload_n hx hb d_Board_step_12 rfl (lv_at hl 1 rfl) ?_
    refine va_get (D := (dC, dI)) (ci := 9) (v := .int (nI ng)) (C := R_Board) (T := F_Board) (N := 19) hx hb hts i_Board hown hK hP 0 rfl rfl 7 (by decide) (hts _ k_380) (fun _ h9 => h9) rfl d_Board_step_13 ?_
    refine nv_icmp_ge (tgt := 42) hx hb (by omega) (by omega) d_Board_step_16 (by decide) (fun c_1 => ?_) (fun c_1 => ?_)
    · have hq : nx = F := by rw [← hr, bd_nx_u, if_neg (by omega)]
      subst hq
      exact kx H locs ls hP hD hS (lv_sub hl [1] rfl)
    · refine lv_aload_n hx hb d_Board_step_19 rfl (lv_at hl 1 rfl) ?_
      refine va_get (D := (dC, dI)) (ci := 9) (v := .ref a_next) (C := R_Board) (T := F_Board) (N := 19) hx hb hts i_Board hown hK hP 0 rfl rfl 16 (by decide) (hts _ k_389) (fun _ h9 => h9) rfl d_Board_step_20 ?_
      refine lv_iload_n hx hb d_Board_step_23 rfl (lv_at hl 0 rfl) ?_
      refine lv_aload_n hx hb d_Board_step_24 rfl (lv_at hl 1 rfl) ?_
      refine va_get (D := (dC, dI)) (ci := 9) (v := .ref a_value) (C := R_Board) (T := F_Board) (N := 19) hx hb hts i_Board hown hK hP 0 rfl rfl 10 (by decide) (hts _ k_383) (fun _ h9 => h9) rfl d_Board_step_25 ?_
      refine lv_aload_n hx hb d_Board_step_28 rfl (lv_at hl 1 rfl) ?_
      refine va_get (D := (dC, dI)) (ci := 9) (v := .ref a_firstIn) (C := R_Board) (T := F_Board) (N := 19) hx hb hts i_Board hown hK hP 0 rfl rfl 5 (by decide) (hts _ k_378) (fun _ h9 => h9) rfl d_Board_step_29 ?_
      refine lv_iload_n hx hb d_Board_step_32 rfl (lv_at hl 0 rfl) ?_
      refine nv_iald hx hb hK hP 2 1 rfl rfl (by omega) (by decide) d_Board_step_33 ?_
      refine nv_zald hx hb hK hP 4 3 rfl rfl (hfi _) (by decide) d_Board_step_34 ?_
      refine nv_zastB (x := va (fi i)) hx hb hK hP hD hS 6 3 rfl rfl (by omega) (by decide) d_Board_step_35 (fun H locs hP hD hS => ?_)
      have hP : va_P (dC, dI) cl [(qd, .inr (9, [.ref qc, f1, f2, f3, .ref a_isDff, .ref a_firstIn, .ref a_secondIn, .int (nI ng), f8, .int (nI fg), .ref a_value, f11, f12, .ref a_order, .int (nI no), f15, .ref a_next, .int (nI tc), f18])), (a_isDff, .inl (cZ, 300, .inl (bF isd))), (a_firstIn, .inl (cI, 300, .inl (nF fi))), (a_secondIn, .inl (cI, 300, .inl (nF si))), (a_value, .inl (cZ, 430, .inl (bF va))), (a_order, .inl (cI, 300, .inl (nF od))), (a_next, .inl (cZ, 300, .inl (bF (va_up nx i (va (fi i))))))] H := hP
      have hD : va_D A [(qd, .inr (9, [.ref qc, f1, f2, f3, .ref a_isDff, .ref a_firstIn, .ref a_secondIn, .int (nI ng), f8, .int (nI fg), .ref a_value, f11, f12, .ref a_order, .int (nI no), f15, .ref a_next, .int (nI tc), f18])), (a_isDff, .inl (cZ, 300, .inl (bF isd))), (a_firstIn, .inl (cI, 300, .inl (nF fi))), (a_secondIn, .inl (cI, 300, .inl (nF si))), (a_value, .inl (cZ, 430, .inl (bF va))), (a_order, .inl (cI, 300, .inl (nF od))), (a_next, .inl (cZ, 300, .inl (bF (va_up nx i (va (fi i))))))] := hD
      refine lv_iinc (v := nI (i + 1)) (lv' := [(1, .int (nI (i + 1))), (0, .ref qd)]) hx hb d_Board_step_36 hl (k := 0) rfl (nI_1 _) (by decide) rfl (fun ls hl => ?_)
      refine lv_goto (tgt := 11) hx hb d_Board_step_39 (by decide) ?_
      exact ih (i + 1) _ H locs ls (by omega) (by omega) (by rw [← hr, bd_nx_u fi va ng i, if_pos (by omega)]) hP hD hS (lv_sub hl [0, 1] rfl)
set_option maxHeartbeats 4000000 in
set_option maxRecDepth 100000 in
theorem lp_Board_step2 {p : Program} {l : Launch} {e : Env} {s : State} {m : MethodId} {args : Array Value} {below : List Frame} {meth : Method} {c : Code} {Q : State → Prop} {A : Nat → Prop} {dC : Nat → ClassId} {dI : Nat → Nat → Nat} {cB cI cL cZ cC cO : ClassId} {qd qc a_isDff a_firstIn a_secondIn a_value a_order a_next : Nat}{f1 f2 f3 f8 f11 f12 f15 : Value} {f18 : Value} {fi si od : Nat → Nat} {isd : Nat → Bool} {fg no ng tc : Nat} {nx : Nat → Bool} {F : (Nat → Bool) × Nat} (hng : ng ≤ 300) (hno : no ≤ 300) (hod : ∀ i, od i < 300) (hfi : ∀ x, fi x < 430) (hsi : ∀ x, si x < 430) (hfg : fg ≤ 130) (hx : p.tables.exec = Jvm.exec) (hb : c.code = b_Board_step) (hml : c.maxLocals = 3) (hown : s.vm.findClass R_Board = some m.cls) (hts : ∀ w ∈ tb, w.before args s = true) (hA : ∀ q, s.heap.size ≤ q → A q) (hF : stF A s) (hK : va_K (dC, dI) cl [(cB, .byte), (cI, .int), (cL, .long), (cZ, .boolean), (cC, .char), (cO, .object "java/lang/Object")] s)
    (kx : ∀  (H : Heap) (locs : List Loc) (ls : Array Slot), va_P (dC, dI) cl [(qd, .inr (9, [.ref qc, f1, f2, f3, .ref a_isDff, .ref a_firstIn, .ref a_secondIn, .int (nI ng), f8, .int (nI fg), .ref a_value, f11, f12, .ref a_order, .int (nI no), f15, .ref a_next, .int (nI tc), f18])), (a_isDff, .inl (cZ, 300, .inl (bF isd))), (a_firstIn, .inl (cI, 300, .inl (nF fi))), (a_secondIn, .inl (cI, 300, .inl (nF si))), (a_value, .inl (cZ, 430, .inl (bF F.1))), (a_order, .inl (cI, 300, .inl (nF od))), (a_next, .inl (cZ, 300, .inl (bF nx)))] H → va_D A [(qd, .inr (9, [.ref qc, f1, f2, f3, .ref a_isDff, .ref a_firstIn, .ref a_secondIn, .int (nI ng), f8, .int (nI fg), .ref a_value, f11, f12, .ref a_order, .int (nI no), f15, .ref a_next, .int (nI tc), f18])), (a_isDff, .inl (cZ, 300, .inl (bF isd))), (a_firstIn, .inl (cI, 300, .inl (nF fi))), (a_secondIn, .inl (cI, 300, .inl (nF si))), (a_value, .inl (cZ, 430, .inl (bF F.1))), (a_order, .inl (cI, 300, .inl (nF od))), (a_next, .inl (cZ, 300, .inl (bF nx)))] → va_S A s.heap H locs → lv_has ls 3 [(1, .int (nI F.2)), (0, .ref qd)] → W p l e (headSpec w_Board_step { frames := 1, cells := 0, slots := 0, locals := 30 }).room s m args below meth c H locs 0 0 Q (F0 m 109 ls [])) :
    ∀ (k : Nat) (i : Nat) (va : Nat → Bool) (ch : Nat) (H : Heap) (locs : List Loc) (ls : Array Slot), ng < i + k → i ≤ ng → bd_tk isd nx fg (ng - i) i (va, ch) = F → va_P (dC, dI) cl [(qd, .inr (9, [.ref qc, f1, f2, f3, .ref a_isDff, .ref a_firstIn, .ref a_secondIn, .int (nI ng), f8, .int (nI fg), .ref a_value, f11, f12, .ref a_order, .int (nI no), f15, .ref a_next, .int (nI tc), f18])), (a_isDff, .inl (cZ, 300, .inl (bF isd))), (a_firstIn, .inl (cI, 300, .inl (nF fi))), (a_secondIn, .inl (cI, 300, .inl (nF si))), (a_value, .inl (cZ, 430, .inl (bF va))), (a_order, .inl (cI, 300, .inl (nF od))), (a_next, .inl (cZ, 300, .inl (bF nx)))] H → va_D A [(qd, .inr (9, [.ref qc, f1, f2, f3, .ref a_isDff, .ref a_firstIn, .ref a_secondIn, .int (nI ng), f8, .int (nI fg), .ref a_value, f11, f12, .ref a_order, .int (nI no), f15, .ref a_next, .int (nI tc), f18])), (a_isDff, .inl (cZ, 300, .inl (bF isd))), (a_firstIn, .inl (cI, 300, .inl (nF fi))), (a_secondIn, .inl (cI, 300, .inl (nF si))), (a_value, .inl (cZ, 430, .inl (bF va))), (a_order, .inl (cI, 300, .inl (nF od))), (a_next, .inl (cZ, 300, .inl (bF nx)))] → va_S A s.heap H locs → lv_has ls 3 [(2, .int (nI i)), (1, .int (nI ch)), (0, .ref qd)] → W p l e (headSpec w_Board_step { frames := 1, cells := 0, slots := 0, locals := 30 }).room s m args below meth c H locs 0 0 Q (F0 m 46 ls []) := by
  intro k
  induction k with
  | zero =>
    intro i va ch H locs ls hk hi hr hP hD hS hl
    exfalso; omega
  | succ k ih =>
    intro i va ch H locs ls hk hi hr hP hD hS hl
    refine lv_iload_n hx hb d_Board_step_46 rfl (lv_at hl 0 rfl) ?_
    refine lv_aload_n hx hb d_Board_step_47 rfl (lv_at hl 2 rfl) ?_
    refine va_get (D := (dC, dI)) (ci := 9) (v := .int (nI ng)) (C := R_Board) (T := F_Board) (N := 19) hx hb hts i_Board hown hK hP 0 rfl rfl 7 (by decide) (hts _ k_380) (fun _ h9 => h9) rfl d_Board_step_48 ?_
    refine nv_icmp_ge (tgt := 109) hx hb (by omega) (by omega) d_Board_step_51 (by decide) (fun c_1 => ?_) (fun c_1 => ?_)
    · have hq : (va, ch) = F := by rw [← hr, bd_tk_u, if_neg (by omega)]
      subst hq
      exact kx H locs ls hP hD hS (lv_sub hl [1, 2] rfl)
    · refine lv_aload_n hx hb d_Board_step_54 rfl (lv_at hl 2 rfl) ?_
      refine va_get (D := (dC, dI)) (ci := 9) (v := .ref a_isDff) (C := R_Board) (T := F_Board) (N := 19) hx hb hts i_Board hown hK hP 0 rfl rfl 4 (by decide) (hts _ k_377) (fun _ h9 => h9) rfl d_Board_step_55 ?_
      refine lv_iload_n hx hb d_Board_step_58 rfl (lv_at hl 0 rfl) ?_
      refine nv_zald hx hb hK hP 1 3 rfl rfl (by omega) (by decide) d_Board_step_59 ?_
      refine nv_bif_eq (tgt := 103) hx hb d_Board_step_60 (by decide) (fun c_2 => ?_) (fun c_2 => ?_)
      · refine lv_iinc (v := nI (i + 1)) (lv' := [(2, .int (nI (i + 1))), (1, .int (nI ch)), (0, .ref qd)]) hx hb d_Board_step_103 hl (k := 0) rfl (nI_1 _) (by decide) rfl (fun ls hl => ?_)
        refine lv_goto (tgt := 46) hx hb d_Board_step_106 (by decide) ?_
        exact ih (i + 1) (va) (ch) H locs ls (by omega) (by omega) (by rw [← hr, bd_tk_u isd nx fg ng i, if_pos (by omega), if_neg (fun q9 => by first | exact absurd q9.1 (by rw [c_2]; decide) | exact q9.2 c_2)]) hP hD hS (lv_sub hl [0, 1, 2] rfl)
      · refine lv_aload_n hx hb d_Board_step_63 rfl (lv_at hl 2 rfl) ?_
        refine va_get (D := (dC, dI)) (ci := 9) (v := .ref a_value) (C := R_Board) (T := F_Board) (N := 19) hx hb hts i_Board hown hK hP 0 rfl rfl 10 (by decide) (hts _ k_383) (fun _ h9 => h9) rfl d_Board_step_64 ?_
        refine lv_aload_n hx hb d_Board_step_67 rfl (lv_at hl 2 rfl) ?_
        refine va_get (D := (dC, dI)) (ci := 9) (v := .int (nI fg)) (C := R_Board) (T := F_Board) (N := 19) hx hb hts i_Board hown hK hP 0 rfl rfl 9 (by decide) (hts _ k_382) (fun _ h9 => h9) rfl d_Board_step_68 ?_
        refine lv_iload_n hx hb d_Board_step_71 rfl (lv_at hl 0 rfl) ?_
        refine nv_iadd hx hb d_Board_step_72 ?_
        refine nv_zald hx hb hK hP 4 3 rfl rfl (by omega) (by decide) d_Board_step_73 ?_
        refine lv_aload_n hx hb d_Board_step_74 rfl (lv_at hl 2 rfl) ?_
        refine va_get (D := (dC, dI)) (ci := 9) (v := .ref a_next) (C := R_Board) (T := F_Board) (N := 19) hx hb hts i_Board hown hK hP 0 rfl rfl 16 (by decide) (hts _ k_389) (fun _ h9 => h9) rfl d_Board_step_75 ?_
        refine lv_iload_n hx hb d_Board_step_78 rfl (lv_at hl 0 rfl) ?_
        refine nv_zald hx hb hK hP 6 3 rfl rfl (by omega) (by decide) d_Board_step_79 ?_
        refine nv_bicmp_eq (tgt := 103) hx hb d_Board_step_80 (by decide) (fun c_3 => ?_) (fun c_3 => ?_)
        · refine lv_iinc (v := nI (i + 1)) (lv' := [(2, .int (nI (i + 1))), (1, .int (nI ch)), (0, .ref qd)]) hx hb d_Board_step_103 hl (k := 0) rfl (nI_1 _) (by decide) rfl (fun ls hl => ?_)
          refine lv_goto (tgt := 46) hx hb d_Board_step_106 (by decide) ?_
          exact ih (i + 1) (va) (ch) H locs ls (by omega) (by omega) (by rw [← hr, bd_tk_u isd nx fg ng i, if_pos (by omega), if_neg (fun q9 => by first | exact absurd q9.1 (by rw [c_3]; decide) | exact q9.2 c_3)]) hP hD hS (lv_sub hl [0, 1, 2] rfl)
        · refine lv_aload_n hx hb d_Board_step_83 rfl (lv_at hl 2 rfl) ?_
          refine va_get (D := (dC, dI)) (ci := 9) (v := .ref a_value) (C := R_Board) (T := F_Board) (N := 19) hx hb hts i_Board hown hK hP 0 rfl rfl 10 (by decide) (hts _ k_383) (fun _ h9 => h9) rfl d_Board_step_84 ?_
          refine lv_aload_n hx hb d_Board_step_87 rfl (lv_at hl 2 rfl) ?_
          refine va_get (D := (dC, dI)) (ci := 9) (v := .int (nI fg)) (C := R_Board) (T := F_Board) (N := 19) hx hb hts i_Board hown hK hP 0 rfl rfl 9 (by decide) (hts _ k_382) (fun _ h9 => h9) rfl d_Board_step_88 ?_
          refine lv_iload_n hx hb d_Board_step_91 rfl (lv_at hl 0 rfl) ?_
          refine nv_iadd hx hb d_Board_step_92 ?_
          refine lv_aload_n hx hb d_Board_step_93 rfl (lv_at hl 2 rfl) ?_
          refine va_get (D := (dC, dI)) (ci := 9) (v := .ref a_next) (C := R_Board) (T := F_Board) (N := 19) hx hb hts i_Board hown hK hP 0 rfl rfl 16 (by decide) (hts _ k_389) (fun _ h9 => h9) rfl d_Board_step_94 ?_
          refine lv_iload_n hx hb d_Board_step_97 rfl (lv_at hl 0 rfl) ?_
          refine nv_zald hx hb hK hP 6 3 rfl rfl (by omega) (by decide) d_Board_step_98 ?_
          refine nv_zastB (x := nx i) hx hb hK hP hD hS 4 3 rfl rfl (by omega) (by decide) d_Board_step_99 (fun H locs hP hD hS => ?_)
          have hP : va_P (dC, dI) cl [(qd, .inr (9, [.ref qc, f1, f2, f3, .ref a_isDff, .ref a_firstIn, .ref a_secondIn, .int (nI ng), f8, .int (nI fg), .ref a_value, f11, f12, .ref a_order, .int (nI no), f15, .ref a_next, .int (nI tc), f18])), (a_isDff, .inl (cZ, 300, .inl (bF isd))), (a_firstIn, .inl (cI, 300, .inl (nF fi))), (a_secondIn, .inl (cI, 300, .inl (nF si))), (a_value, .inl (cZ, 430, .inl (bF (va_up va (fg + i) (nx i))))), (a_order, .inl (cI, 300, .inl (nF od))), (a_next, .inl (cZ, 300, .inl (bF nx)))] H := hP
          have hD : va_D A [(qd, .inr (9, [.ref qc, f1, f2, f3, .ref a_isDff, .ref a_firstIn, .ref a_secondIn, .int (nI ng), f8, .int (nI fg), .ref a_value, f11, f12, .ref a_order, .int (nI no), f15, .ref a_next, .int (nI tc), f18])), (a_isDff, .inl (cZ, 300, .inl (bF isd))), (a_firstIn, .inl (cI, 300, .inl (nF fi))), (a_secondIn, .inl (cI, 300, .inl (nF si))), (a_value, .inl (cZ, 430, .inl (bF (va_up va (fg + i) (nx i))))), (a_order, .inl (cI, 300, .inl (nF od))), (a_next, .inl (cZ, 300, .inl (bF nx)))] := hD
          refine lv_iinc (v := nI (ch + 1)) (lv' := [(1, .int (nI (ch + 1))), (2, .int (nI i)), (0, .ref qd)]) hx hb d_Board_step_100 hl (k := 1) rfl (nI_1 _) (by decide) rfl (fun ls hl => ?_)
          refine lv_iinc (v := nI (i + 1)) (lv' := [(2, .int (nI (i + 1))), (1, .int (nI (ch + 1))), (0, .ref qd)]) hx hb d_Board_step_103 hl (k := 1) rfl (nI_1 _) (by decide) rfl (fun ls hl => ?_)
          refine lv_goto (tgt := 46) hx hb d_Board_step_106 (by decide) ?_
          exact ih (i + 1) (va_up va (fg + i) (nx i)) (ch + 1) H locs ls (by omega) (by omega) (by rw [← hr, bd_tk_u isd nx fg ng i, if_pos (by omega), if_pos ⟨c_2, c_3⟩]) hP hD hS (lv_sub hl [0, 1, 2] rfl)
set_option maxHeartbeats 4000000 in
set_option maxRecDepth 100000 in
/-- step() -/
theorem c_Board_step (l : Launch) (dC : Nat → ClassId) (dI : Nat → Nat → Nat) (cB cI cL cZ cC cO : ClassId) {qd qc a_isDff a_firstIn a_secondIn a_value a_order a_next : Nat}{f1 f2 f3 f8 f11 f12 f15 : Value} {f18 : Value} (fi si od : Nat → Nat) (isd va nx : Nat → Bool) (fg no ng tc : Nat) (sz : Nat) (hng : ng ≤ 300) (hno : no ≤ 300) (hod : ∀ i, od i < 300) (hfi : ∀ x, fi x < 430) (hsi : ∀ x, si x < 430) (hfg : fg ≤ 130) : Met l y_Board_step w_Board_step ({ frames := 1, cells := 0, slots := 0, locals := 30 }) (va_Pc [.ref qd] (wB (dC, dI) cl [(cB, .byte), (cI, .int), (cL, .long), (cZ, .boolean), (cC, .char), (cO, .object "java/lang/Object")] sz [(qd, .inr (9, [.ref qc, f1, f2, f3, .ref a_isDff, .ref a_firstIn, .ref a_secondIn, .int (nI ng), f8, .int (nI fg), .ref a_value, f11, f12, .ref a_order, .int (nI no), f15, .ref a_next, .int (nI tc), f18])), (a_isDff, .inl (cZ, 300, .inl (bF isd))), (a_firstIn, .inl (cI, 300, .inl (nF fi))), (a_secondIn, .inl (cI, 300, .inl (nF si))), (a_value, .inl (cZ, 430, .inl (bF va))), (a_order, .inl (cI, 300, .inl (nF od))), (a_next, .inl (cZ, 300, .inl (bF nx)))])) (va_Qi (fun (r : Int32) (u : ((Nat → Bool) × Nat) × (Nat → Bool)) => r = nI (bd_tk isd (bd_nx fi va ng 0 nx) fg ng 0 (va, 0)).2 ∧ u = ((bd_set od fi si fg no 0 ((bd_tk isd (bd_nx fi va ng 0 nx) fg ng 0 (va, 0)).1, 0)), (bd_nx fi va ng 0 nx))) (fun u t => wA (dC, dI) cl [(cB, .byte), (cI, .int), (cL, .long), (cZ, .boolean), (cC, .char), (cO, .object "java/lang/Object")] (va_A [(qd, .inr (9, [.ref qc, f1, f2, f3, .ref a_isDff, .ref a_firstIn, .ref a_secondIn, .int (nI ng), f8, .int (nI fg), .ref a_value, f11, f12, .ref a_order, .int (nI no), f15, .ref a_next, .int (nI tc), f18])), (a_isDff, .inl (cZ, 300, .inl (bF isd))), (a_firstIn, .inl (cI, 300, .inl (nF fi))), (a_secondIn, .inl (cI, 300, .inl (nF si))), (a_value, .inl (cZ, 430, .inl (bF va))), (a_order, .inl (cI, 300, .inl (nF od))), (a_next, .inl (cZ, 300, .inl (bF nx)))] sz) [(qd, .inr (9, [.ref qc, f1, f2, f3, .ref a_isDff, .ref a_firstIn, .ref a_secondIn, .int (nI ng), f8, .int (nI fg), .ref a_value, f11, f12, .ref a_order, .int (nI no), f15, .ref a_next, .int (nI (tc + 1)), .int (nI u.1.2)])), (a_isDff, .inl (cZ, 300, .inl (bF isd))), (a_firstIn, .inl (cI, 300, .inl (nF fi))), (a_secondIn, .inl (cI, 300, .inl (nF si))), (a_value, .inl (cZ, 430, .inl (bF u.1.1))), (a_order, .inl (cI, 300, .inl (nF od))), (a_next, .inl (cZ, 300, .inl (bF u.2)))] t) (va_A [(qd, .inr (9, [.ref qc, f1, f2, f3, .ref a_isDff, .ref a_firstIn, .ref a_secondIn, .int (nI ng), f8, .int (nI fg), .ref a_value, f11, f12, .ref a_order, .int (nI no), f15, .ref a_next, .int (nI tc), f18])), (a_isDff, .inl (cZ, 300, .inl (bF isd))), (a_firstIn, .inl (cI, 300, .inl (nF fi))), (a_secondIn, .inl (cI, 300, .inl (nF si))), (a_value, .inl (cZ, 430, .inl (bF va))), (a_order, .inl (cI, 300, .inl (nF od))), (a_next, .inl (cZ, 300, .inl (bF nx)))] sz)) 0 0 (va_A [(qd, .inr (9, [.ref qc, f1, f2, f3, .ref a_isDff, .ref a_firstIn, .ref a_secondIn, .int (nI ng), f8, .int (nI fg), .ref a_value, f11, f12, .ref a_order, .int (nI no), f15, .ref a_next, .int (nI tc), f18])), (a_isDff, .inl (cZ, 300, .inl (bF isd))), (a_firstIn, .inl (cI, 300, .inl (nF fi))), (a_secondIn, .inl (cI, 300, .inl (nF si))), (a_value, .inl (cZ, 430, .inl (bF va))), (a_order, .inl (cI, 300, .inl (nF od))), (a_next, .inl (cZ, 300, .inl (bF nx)))] sz) := by
  refine Met.ofW (cc := b_Board_step) (maxL := 3) (ret := (some ClassFile.FieldType.int)) (by decide) rfl ?_
  intro p e s m args below meth c s₁ B hml hv
  obtain ⟨rfl, hsz, hP, hK, hD0, hF⟩ := hv
  have hx := B.exec
  have hb := B.bytes
  have hr := B.returns
  have hts := atoms_spec (ws := w_Board_step) B.pre
  have hts : ∀ w ∈ tb, w.before _ s = true := fun w h => hts w (List.mem_cons_of_mem _ h)
  have hown : s.vm.findClass R_Board = some m.cls := findClass_of_methodNamed B.named
  have hlocks := B.notSynchronized
  subst hsz
  have hD := hD0.self (sz := s.heap.size)
  generalize hAe : va_A [(qd, .inr (9, [.ref qc, f1, f2, f3, .ref a_isDff, .ref a_firstIn, .ref a_secondIn, .int (nI ng), f8, .int (nI fg), .ref a_value, f11, f12, .ref a_order, .int (nI no), f15, .ref a_next, .int (nI tc), f18])), (a_isDff, .inl (cZ, 300, .inl (bF isd))), (a_firstIn, .inl (cI, 300, .inl (nF fi))), (a_secondIn, .inl (cI, 300, .inl (nF si))), (a_value, .inl (cZ, 430, .inl (bF va))), (a_order, .inl (cI, 300, .inl (nF od))), (a_next, .inl (cZ, 300, .inl (bF nx)))] s.heap.size = A at hD hF ⊢
  have hA : ∀ q : Nat, s.heap.size ≤ q → A q := fun q h => by rw [← hAe]; exact Or.inr h
  have hS : va_S A s.heap s.heap [] := va_S.rf
  have hP : va_P (dC, dI) cl [(qd, .inr (9, [.ref qc, f1, f2, f3, .ref a_isDff, .ref a_firstIn, .ref a_secondIn, .int (nI ng), f8, .int (nI fg), .ref a_value, f11, f12, .ref a_order, .int (nI no), f15, .ref a_next, .int (nI tc), f18])), (a_isDff, .inl (cZ, 300, .inl (bF isd))), (a_firstIn, .inl (cI, 300, .inl (nF fi))), (a_secondIn, .inl (cI, 300, .inl (nF si))), (a_value, .inl (cZ, 430, .inl (bF va))), (a_order, .inl (cI, 300, .inl (nF od))), (a_next, .inl (cZ, 300, .inl (bF nx)))] s.heap := hP
  have hl := lv_entry ([.ref qd]) (n := 3) (Nat.le_of_ble_eq_true rfl)
  rw [lg_entry_eq]
  generalize (lg_sl ([.ref qd]) ++ List.replicate (3 - (lg_sl ([.ref qd])).length) Slot.unset).toArray = ls at hl ⊢
  have hl : lv_has ls 3 [(0, .ref qd)] := hl
  refine lv_aload_n hx hb d_Board_step_0 rfl (lv_at hl 0 rfl) ?_
  refine va_get (D := (dC, dI)) (ci := 9) (v := .ref qc) (C := R_Board) (T := F_Board) (N := 19) hx hb hts i_Board hown hK hP 0 rfl rfl 0 (by decide) (hts _ k_373) (fun _ h9 => h9) rfl d_Board_step_1 ?_
  refine lv_ifnonnull (tgt := 9) hx hb d_Board_step_4 (by decide) ?_
  refine lv_iconst (v := nI 0) hx hb d_Board_step_9 (by decide) ?_
  refine lv_istore_n (lv' := [(1, .int (nI 0)), (0, .ref qd)]) hx hb d_Board_step_10 rfl hl (by decide) rfl (fun ls hl => ?_)
  refine lp_Board_step1 (F := (bd_nx fi va ng 0 nx)) hng hno hod hfi hsi hfg hx hb hml hown hts hA hF hK (fun H locs ls hP hD hS hl => ?_) (ng + 1) 0 nx _ _ ls (by omega) (by omega) rfl hP hD hS (lv_sub hl [0, 1] rfl)
  refine lv_iconst (v := nI 0) hx hb d_Board_step_42 (by decide) ?_
  refine lv_istore_n (lv' := [(1, .int (nI 0)), (0, .ref qd)]) hx hb d_Board_step_43 rfl hl (by decide) rfl (fun ls hl => ?_)
  refine lv_iconst (v := nI 0) hx hb d_Board_step_44 (by decide) ?_
  refine lv_istore_n (lv' := [(2, .int (nI 0)), (1, .int (nI 0)), (0, .ref qd)]) hx hb d_Board_step_45 rfl hl (by decide) rfl (fun ls hl => ?_)
  refine lp_Board_step2 (F := (bd_tk isd (bd_nx fi va ng 0 nx) fg ng 0 (va, 0))) hng hno hod hfi hsi hfg hx hb hml hown hts hA hF hK (fun H locs ls hP hD hS hl => ?_) (ng + 1) 0 va 0 _ _ ls (by omega) (by omega) rfl hP hD hS (lv_sub hl [0, 1, 2] rfl)
  refine lv_aload_n hx hb d_Board_step_109 rfl (lv_at hl 1 rfl) ?_
  refine lv_dup hx hb d_Board_step_110 rfl ?_
  refine va_get (D := (dC, dI)) (ci := 9) (v := .int (nI tc)) (C := R_Board) (T := F_Board) (N := 19) hx hb hts i_Board hown hK hP 0 rfl rfl 17 (by decide) (hts _ k_390) (fun _ h9 => h9) rfl d_Board_step_111 ?_
  refine lv_iconst (v := nI 1) hx hb d_Board_step_114 (by decide) ?_
  refine nv_iadd hx hb d_Board_step_115 ?_
  refine va_put (D := (dC, dI)) (ci := 9) (v := .int (nI (tc + 1))) (ty := .int) (C := R_Board) (T := F_Board) (N := 19) hx hb hts i_Board t_Board t_Board_ok n_Board hown hK hP hD hS 0 rfl rfl 17 (by decide) (hts _ k_390) (fun _ h9 => h9) rfl (by decide +kernel) rfl rfl (Nat.le_of_ble_eq_true rfl) d_Board_step_116 (fun H locs hP hD hS => ?_)
  have hP : va_P (dC, dI) cl [(qd, .inr (9, [.ref qc, f1, f2, f3, .ref a_isDff, .ref a_firstIn, .ref a_secondIn, .int (nI ng), f8, .int (nI fg), .ref a_value, f11, f12, .ref a_order, .int (nI no), f15, .ref a_next, .int (nI (tc + 1)), f18])), (a_isDff, .inl (cZ, 300, .inl (bF isd))), (a_firstIn, .inl (cI, 300, .inl (nF fi))), (a_secondIn, .inl (cI, 300, .inl (nF si))), (a_value, .inl (cZ, 430, .inl (bF ((bd_tk isd (bd_nx fi va ng 0 nx) fg ng 0 (va, 0)).1)))), (a_order, .inl (cI, 300, .inl (nF od))), (a_next, .inl (cZ, 300, .inl (bF (bd_nx fi va ng 0 nx))))] H := hP
  have hD : va_D A [(qd, .inr (9, [.ref qc, f1, f2, f3, .ref a_isDff, .ref a_firstIn, .ref a_secondIn, .int (nI ng), f8, .int (nI fg), .ref a_value, f11, f12, .ref a_order, .int (nI no), f15, .ref a_next, .int (nI (tc + 1)), f18])), (a_isDff, .inl (cZ, 300, .inl (bF isd))), (a_firstIn, .inl (cI, 300, .inl (nF fi))), (a_secondIn, .inl (cI, 300, .inl (nF si))), (a_value, .inl (cZ, 430, .inl (bF ((bd_tk isd (bd_nx fi va ng 0 nx) fg ng 0 (va, 0)).1)))), (a_order, .inl (cI, 300, .inl (nF od))), (a_next, .inl (cZ, 300, .inl (bF (bd_nx fi va ng 0 nx))))] := hD
  refine lv_aload_n hx hb d_Board_step_119 rfl (lv_at hl 1 rfl) ?_
  refine wc_v (wc := [(qd, .inr (9, [.ref qc, f1, f2, f3, .ref a_isDff, .ref a_firstIn, .ref a_secondIn, .int (nI ng), f8, .int (nI fg), .ref a_value, f11, f12, .ref a_order, .int (nI no), f15, .ref a_next, .int (nI (tc + 1)), f18])), (a_firstIn, .inl (cI, 300, .inl (nF fi))), (a_secondIn, .inl (cI, 300, .inl (nF si))), (a_value, .inl (cZ, 430, .inl (bF ((bd_tk isd (bd_nx fi va ng 0 nx) fg ng 0 (va, 0)).1)))), (a_order, .inl (cI, 300, .inl (nF od)))]) (wr := [(a_isDff, .inl (cZ, 300, .inl (bF isd))), (a_next, .inl (cZ, 300, .inl (bF (bd_nx fi va ng 0 nx))))]) (va_runV (As := []) (rest := []) ⟨hx, hb, hml, hown, hts⟩ (c_Board_settle l dC dI cB cI cL cZ cC cO fi si od (bd_tk isd (bd_nx fi va ng 0 nx) fg ng 0 (va, 0)).1 fg no _ hno hod hfi hsi hfg) (cwV 0 hts (good_V k_822 k_824 s_Board_settle k_18 k_825) rfl rfl rfl (by decide +kernel) ⟨Nat.le_of_ble_eq_true rfl, Nat.le_of_ble_eq_true rfl⟩) (wc_preV (k0 := 0) (ci := 9) (r := (R_Board, F_Board, 19)) hK hP hD hS hA hF [0, 2, 3, 4, 5] (by decide) rfl rfl rfl) rfl rfl hl.1 rfl (lv_room (Nat.le_of_ble_eq_true rfl)) d_Board_step_120 ⟨Nat.le_of_ble_eq_true rfl, Nat.le_of_ble_eq_true rfl⟩) hP hD hS hA [0, 2, 3, 4, 5] [1, 6] rfl rfl (by decide) (by decide) (fun u H locs w_1 hP hD hS => ?_)
  have hP : va_P (dC, dI) cl [(a_isDff, .inl (cZ, 300, .inl (bF isd))), (a_next, .inl (cZ, 300, .inl (bF (bd_nx fi va ng 0 nx)))), (qd, .inr (9, [.ref qc, f1, f2, f3, .ref a_isDff, .ref a_firstIn, .ref a_secondIn, .int (nI ng), f8, .int (nI fg), .ref a_value, f11, f12, .ref a_order, .int (nI no), f15, .ref a_next, .int (nI (tc + 1)), .int (nI ((u, 0).1.2))])), (a_firstIn, .inl (cI, 300, .inl (nF fi))), (a_secondIn, .inl (cI, 300, .inl (nF si))), (a_value, .inl (cZ, 430, .inl (bF u.1))), (a_order, .inl (cI, 300, .inl (nF od)))] H := hP
  have hD : va_D A [(a_isDff, .inl (cZ, 300, .inl (bF isd))), (a_next, .inl (cZ, 300, .inl (bF (bd_nx fi va ng 0 nx)))), (qd, .inr (9, [.ref qc, f1, f2, f3, .ref a_isDff, .ref a_firstIn, .ref a_secondIn, .int (nI ng), f8, .int (nI fg), .ref a_value, f11, f12, .ref a_order, .int (nI no), f15, .ref a_next, .int (nI (tc + 1)), .int (nI ((u, 0).1.2))])), (a_firstIn, .inl (cI, 300, .inl (nF fi))), (a_secondIn, .inl (cI, 300, .inl (nF si))), (a_value, .inl (cZ, 430, .inl (bF u.1))), (a_order, .inl (cI, 300, .inl (nF od)))] := hD
  subst w_1
  have hP : va_P (dC, dI) cl [(a_isDff, .inl (cZ, 300, .inl (bF isd))), (a_next, .inl (cZ, 300, .inl (bF (bd_nx fi va ng 0 nx)))), (qd, .inr (9, [.ref qc, f1, f2, f3, .ref a_isDff, .ref a_firstIn, .ref a_secondIn, .int (nI ng), f8, .int (nI fg), .ref a_value, f11, f12, .ref a_order, .int (nI no), f15, .ref a_next, .int (nI (tc + 1)), .int (nI ((bd_set od fi si fg no 0 ((bd_tk isd (bd_nx fi va ng 0 nx) fg ng 0 (va, 0)).1, 0)).2))])), (a_firstIn, .inl (cI, 300, .inl (nF fi))), (a_secondIn, .inl (cI, 300, .inl (nF si))), (a_value, .inl (cZ, 430, .inl (bF ((bd_set od fi si fg no 0 ((bd_tk isd (bd_nx fi va ng 0 nx) fg ng 0 (va, 0)).1, 0)).1)))), (a_order, .inl (cI, 300, .inl (nF od)))] H := hP
  have hD : va_D A [(a_isDff, .inl (cZ, 300, .inl (bF isd))), (a_next, .inl (cZ, 300, .inl (bF (bd_nx fi va ng 0 nx)))), (qd, .inr (9, [.ref qc, f1, f2, f3, .ref a_isDff, .ref a_firstIn, .ref a_secondIn, .int (nI ng), f8, .int (nI fg), .ref a_value, f11, f12, .ref a_order, .int (nI no), f15, .ref a_next, .int (nI (tc + 1)), .int (nI ((bd_set od fi si fg no 0 ((bd_tk isd (bd_nx fi va ng 0 nx) fg ng 0 (va, 0)).1, 0)).2))])), (a_firstIn, .inl (cI, 300, .inl (nF fi))), (a_secondIn, .inl (cI, 300, .inl (nF si))), (a_value, .inl (cZ, 430, .inl (bF ((bd_set od fi si fg no 0 ((bd_tk isd (bd_nx fi va ng 0 nx) fg ng 0 (va, 0)).1, 0)).1)))), (a_order, .inl (cI, 300, .inl (nF od)))] := hD
  refine lv_iload_n hx hb d_Board_step_123 rfl (lv_at hl 0 rfl) ?_
  exact wr_i hx hb hr hlocks ((bd_set od fi si fg no 0 ((bd_tk isd (bd_nx fi va ng 0 nx) fg ng 0 (va, 0)).1, 0)), (bd_nx fi va ng 0 nx)) ⟨rfl, rfl⟩ hK (hP.sub [2, 0, 3, 4, 5, 6, 1] rfl) (hD.sub [2, 0, 3, 4, 5, 6, 1] (by decide) rfl) hS d_Board_step_124
set_option maxHeartbeats 4000000 in
set_option maxRecDepth 100000 in
/-- step() without a board -/
theorem c_Board_stepN (l : Launch) (dC : Nat → ClassId) (dI : Nat → Nat → Nat) (cB cI cL cZ cC cO : ClassId) {qd : Nat}{f1 f2 f3 f4 f5 f6 f7 f8 f9 f10 f11 f12 f13 f14 f15 f16 f17 f18 : Value} (sz : Nat)  : Met l y_Board_step w_Board_step ({ frames := 0, cells := 0, slots := 0, locals := 0 }) (va_Pc [.ref qd] (wB (dC, dI) cl [(cB, .byte), (cI, .int), (cL, .long), (cZ, .boolean), (cC, .char), (cO, .object "java/lang/Object")] sz [(qd, .inr (9, [.null, f1, f2, f3, f4, f5, f6, f7, f8, f9, f10, f11, f12, f13, f14, f15, f16, f17, f18]))])) (va_Qi (fun (r : Int32) (u : Unit) => r = -1) (fun _ t => wA (dC, dI) cl [(cB, .byte), (cI, .int), (cL, .long), (cZ, .boolean), (cC, .char), (cO, .object "java/lang/Object")] (va_A [(qd, .inr (9, [.null, f1, f2, f3, f4, f5, f6, f7, f8, f9, f10, f11, f12, f13, f14, f15, f16, f17, f18]))] sz) [(qd, .inr (9, [.null, f1, f2, f3, f4, f5, f6, f7, f8, f9, f10, f11, f12, f13, f14, f15, f16, f17, f18]))] t) (va_A [(qd, .inr (9, [.null, f1, f2, f3, f4, f5, f6, f7, f8, f9, f10, f11, f12, f13, f14, f15, f16, f17, f18]))] sz)) 0 0 (va_A [(qd, .inr (9, [.null, f1, f2, f3, f4, f5, f6, f7, f8, f9, f10, f11, f12, f13, f14, f15, f16, f17, f18]))] sz) := by
  refine Met.ofW (cc := b_Board_step) (maxL := 3) (ret := (some ClassFile.FieldType.int)) (by decide) rfl ?_
  intro p e s m args below meth c s₁ B hml hv
  obtain ⟨rfl, hsz, hP, hK, hD0, hF⟩ := hv
  have hx := B.exec
  have hb := B.bytes
  have hr := B.returns
  have hts := atoms_spec (ws := w_Board_step) B.pre
  have hts : ∀ w ∈ tb, w.before _ s = true := fun w h => hts w (List.mem_cons_of_mem _ h)
  have hown : s.vm.findClass R_Board = some m.cls := findClass_of_methodNamed B.named
  have hlocks := B.notSynchronized
  subst hsz
  have hD := hD0.self (sz := s.heap.size)
  generalize hAe : va_A [(qd, .inr (9, [.null, f1, f2, f3, f4, f5, f6, f7, f8, f9, f10, f11, f12, f13, f14, f15, f16, f17, f18]))] s.heap.size = A at hD hF ⊢
  have hA : ∀ q : Nat, s.heap.size ≤ q → A q := fun q h => by rw [← hAe]; exact Or.inr h
  have hS : va_S A s.heap s.heap [] := va_S.rf
  have hP : va_P (dC, dI) cl [(qd, .inr (9, [.null, f1, f2, f3, f4, f5, f6, f7, f8, f9, f10, f11, f12, f13, f14, f15, f16, f17, f18]))] s.heap := hP
  have hl := lv_entry ([.ref qd]) (n := 3) (Nat.le_of_ble_eq_true rfl)
  rw [lg_entry_eq]
  generalize (lg_sl ([.ref qd]) ++ List.replicate (3 - (lg_sl ([.ref qd])).length) Slot.unset).toArray = ls at hl ⊢
  have hl : lv_has ls 3 [(0, .ref qd)] := hl
  refine lv_aload_n hx hb d_Board_step_0 rfl (lv_at hl 0 rfl) ?_
  refine va_get (D := (dC, dI)) (ci := 9) (v := .null) (C := R_Board) (T := F_Board) (N := 19) hx hb hts i_Board hown hK hP 0 rfl rfl 0 (by decide) (hts _ k_373) (fun _ h9 => h9) rfl d_Board_step_1 ?_
  refine lv_ifnonnullN hx hb d_Board_step_4 ?_
  refine lv_iconst (v := (-1)) hx hb d_Board_step_7 (by decide) ?_
  exact wr_i hx hb hr hlocks () rfl hK hP hD hS d_Board_step_8
