def cnt (gl : Nat → Option Nat) : Nat → Nat
  | 0 => 0
  | n + 1 => cnt gl n + (if gl n = none then 0 else 1)
theorem cnt_le (gl : Nat → Option Nat) : ∀ n, cnt gl n ≤ n
  | 0 => Nat.le_refl 0
  | n + 1 => by show cnt gl n + (if gl n = none then 0 else 1) ≤ n + 1; have := cnt_le gl n; split <;> omega
theorem cnt_lt {gl : Nat → Option Nat} {x : Nat} (h : gl x = none) : ∀ n, x < n → cnt gl n < n
  | 0, hx => absurd hx (Nat.not_lt_zero _)
  | n + 1, hx => by
    show cnt gl n + (if gl n = none then 0 else 1) < n + 1
    by_cases q : x = n
    · subst q; rw [if_pos h]; have := cnt_le gl x; omega
    · have := cnt_lt h n (by omega); split <;> omega
theorem cnt_out {gl : Nat → Option Nat} {x v : Nat} : ∀ n, n ≤ x → cnt (va_up gl x (some v)) n = cnt gl n
  | 0, _ => rfl
  | n + 1, hx => by
    show cnt (va_up gl x (some v)) n + (if va_up gl x (some v) n = none then 0 else 1) = cnt gl n + (if gl n = none then 0 else 1)
    rw [cnt_out n (by omega), va_up_ne _ _ (by omega)]
theorem cnt_up {gl : Nat → Option Nat} {x v : Nat} (h : gl x = none) : ∀ n, x < n → cnt (va_up gl x (some v)) n = cnt gl n + 1
  | 0, hx => absurd hx (Nat.not_lt_zero _)
  | n + 1, hx => by
    show cnt (va_up gl x (some v)) n + (if va_up gl x (some v) n = none then 0 else 1) = cnt gl n + (if gl n = none then 0 else 1) + 1
    by_cases q : x = n
    · subst q; rw [cnt_out x (Nat.le_refl _), va_up_self, if_neg (by simp), if_pos h]
    · rw [cnt_up h n (by omega), va_up_ne _ _ (by omega)]; omega
theorem cnt_0 : ∀ n gl, (∀ i, i < n → gl i = none) → cnt gl n = 0
  | 0, _, _ => rfl
  | n + 1, gl, h => by show cnt gl n + (if gl n = none then 0 else 1) = 0; rw [cnt_0 n gl (fun i hi => h i (by omega)), if_pos (h n (by omega))]
theorem or_1_n {gd : Nat → Bool} {gb ga gb_ : Nat → Nat} {x : Nat} {S : OR} (h : gd x = true ∨ S.1 x ≠ none) : or_1 gd gb ga gb_ x S = S := by unfold or_1; rw [if_pos h]
theorem or_1_o {gd : Nat → Bool} {gb ga gb_ : Nat → Nat} {x : Nat} {S : OR} (h : lo gb gd S.1 (ga x) = none ∨ lo gb gd S.1 (gb_ x) = none) : or_1 gd gb ga gb_ x S = S := by
  unfold or_1; split
  · rfl
  · have : omx (lo gb gd S.1 (ga x)) (lo gb gd S.1 (gb_ x)) = none := by
      unfold omx; rcases h with h | h
      · rw [h]
      · rw [h]; cases lo gb gd S.1 (ga x) <;> rfl
    rw [this]
theorem or_1_s {gd : Nat → Bool} {gb ga gb_ : Nat → Nat} {x a b : Nat} {S : OR} (h1 : gd x = false) (h2 : S.1 x = none) (h3 : lo gb gd S.1 (ga x) = some a) (h4 : lo gb gd S.1 (gb_ x) = some b) : or_1 gd gb ga gb_ x S = (va_up S.1 x (some (1 + (if b < a then a else b))), va_up S.2.1 S.2.2.1 x, S.2.2.1 + 1, true) := by
  unfold or_1; rw [if_neg (by rw [h1, h2]; simp), h3, h4]; rfl
theorem lo_le {gb : Nat → Nat} {gd : Nat → Bool} {gl : Nat → Option Nat} {v m gc : Nat} (h : ∀ i z, i < gc → gl i = some z → z ≤ m) (hb : gb (v - 2) ≤ gc) : ∀ z, lo gb gd gl v = some z → z ≤ m := by
  intro z hz
  unfold lo at hz
  split at hz
  · cases hz; exact Nat.zero_le _
  · split at hz
    · cases hz; exact Nat.zero_le _
    · split at hz
      · cases hz; exact Nat.zero_le _
      · exact h _ z (by omega) hz
set_option maxHeartbeats 4000000 in
set_option maxRecDepth 100000 in
theorem lp1_Model_order {p : Program} {l : Launch} {e : Env} {s : State} {m : MethodId} {args : Array Value} {below : List Frame} {meth : Method} {c : Code} {Q : State → Prop} {A : Nat → Prop} {dC : Nat → ClassId} {dI : Nat → Nat → Nat} {cB cI cL cZ cC cO : ClassId} {qm q_gateLevel q_gateDff q_gateA q_gateB q_gateOfBit q_gateOrder : Nat}{f0 f1 f2 f3 f4 f5 f6 f7 f8 f9 f10 f11 f12 f13 f14 f15 f16 f17 f18 f19 f20 f21 f22 f23 f24 f25 f26 f27 f28 f29 f30 f31 f32 f33 f34 f35 f36 f37 f38 f39 f40 f41 f42 f43 f44 f45 f46 f47 f48 f49 f50 f51 f52 f53 f54 f58 f64 f65 f66 f67 f68 f69 f70 : Value} {gc nn : Nat} {gd : Nat → Bool} {ga gb_ gb go : Nat → Nat} {od : Nat} {FG : Nat → Option Nat} {FN : Nat} (hgc : gc ≤ 300) (hx : p.tables.exec = Jvm.exec) (hb : c.code = b_Model_order) (hml : c.maxLocals = 6) (hown : s.vm.findClass R_Model = some m.cls) (hts : ∀ w ∈ tb, w.before args s = true) (hA : ∀ q, s.heap.size ≤ q → A q) (hF : stF A s) (hK : va_K (dC, dI) cl [(cB, .byte), (cI, .int), (cL, .long), (cZ, .boolean), (cC, .char), (cO, .object "java/lang/Object")] s)
    (kx : ∀  (H : Heap) (locs : List Loc) (ls : Array Slot), va_P (dC, dI) cl [(qm, .inr (13, [f0, f1, f2, f3, f4, f5, f6, f7, f8, f9, f10, f11, f12, f13, f14, f15, f16, f17, f18, f19, f20, f21, f22, f23, f24, f25, f26, f27, f28, f29, f30, f31, f32, f33, f34, f35, f36, f37, f38, f39, f40, f41, f42, f43, f44, f45, f46, f47, f48, f49, f50, f51, f52, f53, f54, .ref q_gateOfBit, .int (nI gc), .ref q_gateDff, f58, .ref q_gateLevel, .ref q_gateOrder, .int (nI od), .ref q_gateA, .ref q_gateB, f64, f65, f66, f67, f68, f69, f70])), (q_gateLevel, .inl (cI, 300, .inl (oF FG))), (q_gateDff, .inl (cZ, 300, .inl (bF gd))), (q_gateA, .inl (cI, 300, .inl (zF ga))), (q_gateB, .inl (cI, 300, .inl (zF gb_))), (q_gateOfBit, .inl (cI, 8000, .inl (nF gb))), (q_gateOrder, .inl (cI, 300, .inl (nF go)))] H → va_D A [(qm, .inr (13, [f0, f1, f2, f3, f4, f5, f6, f7, f8, f9, f10, f11, f12, f13, f14, f15, f16, f17, f18, f19, f20, f21, f22, f23, f24, f25, f26, f27, f28, f29, f30, f31, f32, f33, f34, f35, f36, f37, f38, f39, f40, f41, f42, f43, f44, f45, f46, f47, f48, f49, f50, f51, f52, f53, f54, .ref q_gateOfBit, .int (nI gc), .ref q_gateDff, f58, .ref q_gateLevel, .ref q_gateOrder, .int (nI od), .ref q_gateA, .ref q_gateB, f64, f65, f66, f67, f68, f69, f70])), (q_gateLevel, .inl (cI, 300, .inl (oF FG))), (q_gateDff, .inl (cZ, 300, .inl (bF gd))), (q_gateA, .inl (cI, 300, .inl (zF ga))), (q_gateB, .inl (cI, 300, .inl (zF gb_))), (q_gateOfBit, .inl (cI, 8000, .inl (nF gb))), (q_gateOrder, .inl (cI, 300, .inl (nF go)))] → va_S A s.heap H locs → lv_has ls 6 [(1, .int (nI FN)), (0, .ref qm)] → W p l e (headSpec w_Model_order { frames := 1, cells := 0, slots := 0, locals := 30 }).room s m args below meth c H locs 0 0 Q (F0 m 47 ls [])) :
    ∀ (k : Nat) (i : Nat) (gl : Nat → Option Nat) (n : Nat) (H : Heap) (locs : List Loc) (ls : Array Slot), gc < i + k → i ≤ gc → or_0 gd (gc - i) i (gl, n) = (FG, FN) → va_P (dC, dI) cl [(qm, .inr (13, [f0, f1, f2, f3, f4, f5, f6, f7, f8, f9, f10, f11, f12, f13, f14, f15, f16, f17, f18, f19, f20, f21, f22, f23, f24, f25, f26, f27, f28, f29, f30, f31, f32, f33, f34, f35, f36, f37, f38, f39, f40, f41, f42, f43, f44, f45, f46, f47, f48, f49, f50, f51, f52, f53, f54, .ref q_gateOfBit, .int (nI gc), .ref q_gateDff, f58, .ref q_gateLevel, .ref q_gateOrder, .int (nI od), .ref q_gateA, .ref q_gateB, f64, f65, f66, f67, f68, f69, f70])), (q_gateLevel, .inl (cI, 300, .inl (oF gl))), (q_gateDff, .inl (cZ, 300, .inl (bF gd))), (q_gateA, .inl (cI, 300, .inl (zF ga))), (q_gateB, .inl (cI, 300, .inl (zF gb_))), (q_gateOfBit, .inl (cI, 8000, .inl (nF gb))), (q_gateOrder, .inl (cI, 300, .inl (nF go)))] H → va_D A [(qm, .inr (13, [f0, f1, f2, f3, f4, f5, f6, f7, f8, f9, f10, f11, f12, f13, f14, f15, f16, f17, f18, f19, f20, f21, f22, f23, f24, f25, f26, f27, f28, f29, f30, f31, f32, f33, f34, f35, f36, f37, f38, f39, f40, f41, f42, f43, f44, f45, f46, f47, f48, f49, f50, f51, f52, f53, f54, .ref q_gateOfBit, .int (nI gc), .ref q_gateDff, f58, .ref q_gateLevel, .ref q_gateOrder, .int (nI od), .ref q_gateA, .ref q_gateB, f64, f65, f66, f67, f68, f69, f70])), (q_gateLevel, .inl (cI, 300, .inl (oF gl))), (q_gateDff, .inl (cZ, 300, .inl (bF gd))), (q_gateA, .inl (cI, 300, .inl (zF ga))), (q_gateB, .inl (cI, 300, .inl (zF gb_))), (q_gateOfBit, .inl (cI, 8000, .inl (nF gb))), (q_gateOrder, .inl (cI, 300, .inl (nF go)))] → va_S A s.heap H locs → lv_has ls 6 [(2, .int (nI i)), (1, .int (nI n)), (0, .ref qm)] → W p l e (headSpec w_Model_order { frames := 1, cells := 0, slots := 0, locals := 30 }).room s m args below meth c H locs 0 0 Q (F0 m 9 ls []) := by
  intro k
  induction k with
  | zero =>
    intro i gl n H locs ls hk hi hr hP hD hS hl
    exfalso; omega
  | succ k ih =>
    intro i gl n H locs ls hk hi hr hP hD hS hl
    refine lv_iload_n hx hb d_Model_order_9 rfl (lv_at hl 0 rfl) ?_
    refine lv_aload_n hx hb d_Model_order_10 rfl (lv_at hl 2 rfl) ?_
    refine va_get (D := (dC, dI)) (ci := 13) (v := .int (nI gc)) (C := R_Model) (T := F_Model) (N := 71) hx hb hts i_Model hown hK hP 0 rfl rfl 56 (by decide) (hts _ k_930) (fun _ h9 => h9) rfl d_Model_order_11 ?_
    refine nv_icmp_ge (tgt := 47) hx hb (by omega) (by omega) d_Model_order_14 (by decide) (fun c_1 => ?_) (fun c_1 => ?_)
    · have hri : (gl, n) = (FG, FN) := by rw [← hr, or_0_u, if_neg (by omega)]
      obtain ⟨h1, h2⟩ := Prod.mk.inj hri
      subst h1
      subst h2
      exact kx H locs ls hP hD hS (lv_sub hl [1, 2] rfl)
    · refine lv_aload_n hx hb d_Model_order_17 rfl (lv_at hl 2 rfl) ?_
      refine va_get (D := (dC, dI)) (ci := 13) (v := .ref q_gateLevel) (C := R_Model) (T := F_Model) (N := 71) hx hb hts i_Model hown hK hP 0 rfl rfl 59 (by decide) (hts _ k_933) (fun _ h9 => h9) rfl d_Model_order_18 ?_
      refine lv_iload_n hx hb d_Model_order_21 rfl (lv_at hl 0 rfl) ?_
      refine lv_iconst (v := (-1)) hx hb d_Model_order_22 (by decide) ?_
      refine nv_iastO (x := none) hx hb hK hP hD hS 1 1 rfl rfl (by omega) (by decide) d_Model_order_23 (fun H locs hP hD hS => ?_)
      have hP : va_P (dC, dI) cl [(qm, .inr (13, [f0, f1, f2, f3, f4, f5, f6, f7, f8, f9, f10, f11, f12, f13, f14, f15, f16, f17, f18, f19, f20, f21, f22, f23, f24, f25, f26, f27, f28, f29, f30, f31, f32, f33, f34, f35, f36, f37, f38, f39, f40, f41, f42, f43, f44, f45, f46, f47, f48, f49, f50, f51, f52, f53, f54, .ref q_gateOfBit, .int (nI gc), .ref q_gateDff, f58, .ref q_gateLevel, .ref q_gateOrder, .int (nI od), .ref q_gateA, .ref q_gateB, f64, f65, f66, f67, f68, f69, f70])), (q_gateLevel, .inl (cI, 300, .inl (oF (va_up gl i none)))), (q_gateDff, .inl (cZ, 300, .inl (bF gd))), (q_gateA, .inl (cI, 300, .inl (zF ga))), (q_gateB, .inl (cI, 300, .inl (zF gb_))), (q_gateOfBit, .inl (cI, 8000, .inl (nF gb))), (q_gateOrder, .inl (cI, 300, .inl (nF go)))] H := hP
      have hD : va_D A [(qm, .inr (13, [f0, f1, f2, f3, f4, f5, f6, f7, f8, f9, f10, f11, f12, f13, f14, f15, f16, f17, f18, f19, f20, f21, f22, f23, f24, f25, f26, f27, f28, f29, f30, f31, f32, f33, f34, f35, f36, f37, f38, f39, f40, f41, f42, f43, f44, f45, f46, f47, f48, f49, f50, f51, f52, f53, f54, .ref q_gateOfBit, .int (nI gc), .ref q_gateDff, f58, .ref q_gateLevel, .ref q_gateOrder, .int (nI od), .ref q_gateA, .ref q_gateB, f64, f65, f66, f67, f68, f69, f70])), (q_gateLevel, .inl (cI, 300, .inl (oF (va_up gl i none)))), (q_gateDff, .inl (cZ, 300, .inl (bF gd))), (q_gateA, .inl (cI, 300, .inl (zF ga))), (q_gateB, .inl (cI, 300, .inl (zF gb_))), (q_gateOfBit, .inl (cI, 8000, .inl (nF gb))), (q_gateOrder, .inl (cI, 300, .inl (nF go)))] := hD
      refine lv_aload_n hx hb d_Model_order_24 rfl (lv_at hl 2 rfl) ?_
      refine va_get (D := (dC, dI)) (ci := 13) (v := .ref q_gateDff) (C := R_Model) (T := F_Model) (N := 71) hx hb hts i_Model hown hK hP 0 rfl rfl 57 (by decide) (hts _ k_931) (fun _ h9 => h9) rfl d_Model_order_25 ?_
      refine lv_iload_n hx hb d_Model_order_28 rfl (lv_at hl 0 rfl) ?_
      refine nv_zald hx hb hK hP 2 3 rfl rfl (by omega) (by decide) d_Model_order_29 ?_
      refine nv_bif_eq (tgt := 37) hx hb d_Model_order_30 (by decide) (fun c_2 => ?_) (fun c_2 => ?_)
      · refine lv_iload_n hx hb d_Model_order_37 rfl (lv_at hl 1 rfl) ?_
        refine lv_iconst (v := nI 1) hx hb d_Model_order_38 (by decide) ?_
        refine nv_iadd hx hb d_Model_order_39 ?_
        refine lv_istore_n (lv' := [(1, .int (nI (n + 1))), (2, .int (nI i)), (0, .ref qm)]) hx hb d_Model_order_40 rfl hl (by decide) rfl (fun ls hl => ?_)
        refine lv_iinc (v := nI (i + 1)) (lv' := [(2, .int (nI (i + 1))), (1, .int (nI (n + 1))), (0, .ref qm)]) hx hb d_Model_order_41 hl (k := 1) rfl (nI_1 _) (by decide) rfl (fun ls hl => ?_)
        refine lv_goto (tgt := 9) hx hb d_Model_order_44 (by decide) ?_
        exact ih (i + 1) _ (n + 1) H locs ls (by omega) (by omega) (by rw [← hr, or_0_u _ _ i, if_pos (by omega), if_neg (by rw [c_2]; decide)]) hP hD hS (lv_sub hl [0, 1, 2] rfl)
      · refine lv_iload_n hx hb d_Model_order_33 rfl (lv_at hl 1 rfl) ?_
        refine lv_goto (tgt := 40) hx hb d_Model_order_34 (by decide) ?_
        refine lv_istore_n (lv' := [(1, .int (nI n)), (2, .int (nI i)), (0, .ref qm)]) hx hb d_Model_order_40 rfl hl (by decide) rfl (fun ls hl => ?_)
        refine lv_iinc (v := nI (i + 1)) (lv' := [(2, .int (nI (i + 1))), (1, .int (nI n)), (0, .ref qm)]) hx hb d_Model_order_41 hl (k := 1) rfl (nI_1 _) (by decide) rfl (fun ls hl => ?_)
        refine lv_goto (tgt := 9) hx hb d_Model_order_44 (by decide) ?_
        exact ih (i + 1) _ (n) H locs ls (by omega) (by omega) (by rw [← hr, or_0_u _ _ i, if_pos (by omega), if_pos c_2]) hP hD hS (lv_sub hl [0, 1, 2] rfl)
set_option maxHeartbeats 4000000 in
set_option maxRecDepth 100000 in
theorem lp2_Model_order {p : Program} {l : Launch} {e : Env} {s : State} {m : MethodId} {args : Array Value} {below : List Frame} {meth : Method} {c : Code} {Q : State → Prop} {A : Nat → Prop} {dC : Nat → ClassId} {dI : Nat → Nat → Nat} {cB cI cL cZ cC cO : ClassId} {qm q_gateLevel q_gateDff q_gateA q_gateB q_gateOfBit q_gateOrder : Nat}{f0 f1 f2 f3 f4 f5 f6 f7 f8 f9 f10 f11 f12 f13 f14 f15 f16 f17 f18 f19 f20 f21 f22 f23 f24 f25 f26 f27 f28 f29 f30 f31 f32 f33 f34 f35 f36 f37 f38 f39 f40 f41 f42 f43 f44 f45 f46 f47 f48 f49 f50 f51 f52 f53 f54 f58 f64 f65 f66 f67 f68 f69 f70 : Value} {gc nn : Nat} {gd : Nat → Bool} {ga gb_ gb : Nat → Nat} {F : OR} (hgc : gc ≤ 300) (hg : ∀ i, i < gc → (ga i < 8002 ∧ gb_ i < 8002) ∧ gb (ga i - 2) ≤ gc ∧ gb (gb_ i - 2) ≤ gc) (hgb : ∀ i, gb i ≤ 300) (hx : p.tables.exec = Jvm.exec) (hb : c.code = b_Model_order) (hml : c.maxLocals = 6) (hown : s.vm.findClass R_Model = some m.cls) (hts : ∀ w ∈ tb, w.before args s = true) (hA : ∀ q, s.heap.size ≤ q → A q) (hF : stF A s) (hK : va_K (dC, dI) cl [(cB, .byte), (cI, .int), (cL, .long), (cZ, .boolean), (cC, .char), (cO, .object "java/lang/Object")] s)
    (kx : ∀ (gl : Nat → Option Nat) (go : Nat → Nat) (od : Nat) (mr : Bool) (H : Heap) (locs : List Loc) (ls : Array Slot), (gl, go, od, mr) = F → od = cnt gl gc → (∀ i z, i < gc → gl i = some z → z ≤ od) → va_P (dC, dI) cl [(qm, .inr (13, [f0, f1, f2, f3, f4, f5, f6, f7, f8, f9, f10, f11, f12, f13, f14, f15, f16, f17, f18, f19, f20, f21, f22, f23, f24, f25, f26, f27, f28, f29, f30, f31, f32, f33, f34, f35, f36, f37, f38, f39, f40, f41, f42, f43, f44, f45, f46, f47, f48, f49, f50, f51, f52, f53, f54, .ref q_gateOfBit, .int (nI gc), .ref q_gateDff, f58, .ref q_gateLevel, .ref q_gateOrder, .int (nI od), .ref q_gateA, .ref q_gateB, f64, f65, f66, f67, f68, f69, f70])), (q_gateLevel, .inl (cI, 300, .inl (oF gl))), (q_gateDff, .inl (cZ, 300, .inl (bF gd))), (q_gateA, .inl (cI, 300, .inl (zF ga))), (q_gateB, .inl (cI, 300, .inl (zF gb_))), (q_gateOfBit, .inl (cI, 8000, .inl (nF gb))), (q_gateOrder, .inl (cI, 300, .inl (nF go)))] H → va_D A [(qm, .inr (13, [f0, f1, f2, f3, f4, f5, f6, f7, f8, f9, f10, f11, f12, f13, f14, f15, f16, f17, f18, f19, f20, f21, f22, f23, f24, f25, f26, f27, f28, f29, f30, f31, f32, f33, f34, f35, f36, f37, f38, f39, f40, f41, f42, f43, f44, f45, f46, f47, f48, f49, f50, f51, f52, f53, f54, .ref q_gateOfBit, .int (nI gc), .ref q_gateDff, f58, .ref q_gateLevel, .ref q_gateOrder, .int (nI od), .ref q_gateA, .ref q_gateB, f64, f65, f66, f67, f68, f69, f70])), (q_gateLevel, .inl (cI, 300, .inl (oF gl))), (q_gateDff, .inl (cZ, 300, .inl (bF gd))), (q_gateA, .inl (cI, 300, .inl (zF ga))), (q_gateB, .inl (cI, 300, .inl (zF gb_))), (q_gateOfBit, .inl (cI, 8000, .inl (nF gb))), (q_gateOrder, .inl (cI, 300, .inl (nF go)))] → va_S A s.heap H locs → lv_has ls 6 [(2, .int (bI mr)), (1, .int (nI nn)), (0, .ref qm)] → W p l e (headSpec w_Model_order { frames := 1, cells := 0, slots := 0, locals := 30 }).room s m args below meth c H locs 0 0 Q (F0 m 176 ls [])) :
    ∀ (k : Nat) (i : Nat) (gl : Nat → Option Nat) (go : Nat → Nat) (od : Nat) (mr : Bool) (H : Heap) (locs : List Loc) (ls : Array Slot), gc < i + k → i ≤ gc → od = cnt gl gc → (∀ i z, i < gc → gl i = some z → z ≤ od) → or_r gd gb ga gb_ (gc - i) i (gl, go, od, mr) = F → va_P (dC, dI) cl [(qm, .inr (13, [f0, f1, f2, f3, f4, f5, f6, f7, f8, f9, f10, f11, f12, f13, f14, f15, f16, f17, f18, f19, f20, f21, f22, f23, f24, f25, f26, f27, f28, f29, f30, f31, f32, f33, f34, f35, f36, f37, f38, f39, f40, f41, f42, f43, f44, f45, f46, f47, f48, f49, f50, f51, f52, f53, f54, .ref q_gateOfBit, .int (nI gc), .ref q_gateDff, f58, .ref q_gateLevel, .ref q_gateOrder, .int (nI od), .ref q_gateA, .ref q_gateB, f64, f65, f66, f67, f68, f69, f70])), (q_gateLevel, .inl (cI, 300, .inl (oF gl))), (q_gateDff, .inl (cZ, 300, .inl (bF gd))), (q_gateA, .inl (cI, 300, .inl (zF ga))), (q_gateB, .inl (cI, 300, .inl (zF gb_))), (q_gateOfBit, .inl (cI, 8000, .inl (nF gb))), (q_gateOrder, .inl (cI, 300, .inl (nF go)))] H → va_D A [(qm, .inr (13, [f0, f1, f2, f3, f4, f5, f6, f7, f8, f9, f10, f11, f12, f13, f14, f15, f16, f17, f18, f19, f20, f21, f22, f23, f24, f25, f26, f27, f28, f29, f30, f31, f32, f33, f34, f35, f36, f37, f38, f39, f40, f41, f42, f43, f44, f45, f46, f47, f48, f49, f50, f51, f52, f53, f54, .ref q_gateOfBit, .int (nI gc), .ref q_gateDff, f58, .ref q_gateLevel, .ref q_gateOrder, .int (nI od), .ref q_gateA, .ref q_gateB, f64, f65, f66, f67, f68, f69, f70])), (q_gateLevel, .inl (cI, 300, .inl (oF gl))), (q_gateDff, .inl (cZ, 300, .inl (bF gd))), (q_gateA, .inl (cI, 300, .inl (zF ga))), (q_gateB, .inl (cI, 300, .inl (zF gb_))), (q_gateOfBit, .inl (cI, 8000, .inl (nF gb))), (q_gateOrder, .inl (cI, 300, .inl (nF go)))] → va_S A s.heap H locs → lv_has ls 6 [(3, .int (nI i)), (2, .int (bI mr)), (1, .int (nI nn)), (0, .ref qm)] → W p l e (headSpec w_Model_order { frames := 1, cells := 0, slots := 0, locals := 30 }).room s m args below meth c H locs 0 0 Q (F0 m 57 ls []) := by
  intro k
  induction k with
  | zero =>
    intro i gl go od mr H locs ls hk hi hcn hlv hr hP hD hS hl
    exfalso; omega
  | succ k ih =>
    intro i gl go od mr H locs ls hk hi hcn hlv hr hP hD hS hl
    refine lv_iload_n hx hb d_Model_order_57 rfl (lv_at hl 0 rfl) ?_
    refine lv_aload_n hx hb d_Model_order_58 rfl (lv_at hl 3 rfl) ?_
    refine va_get (D := (dC, dI)) (ci := 13) (v := .int (nI gc)) (C := R_Model) (T := F_Model) (N := 71) hx hb hts i_Model hown hK hP 0 rfl rfl 56 (by decide) (hts _ k_930) (fun _ h9 => h9) rfl d_Model_order_59 ?_
    refine nv_icmp_ge (tgt := 176) hx hb (by omega) (by omega) d_Model_order_62 (by decide) (fun c_1 => ?_) (fun c_1 => ?_)
    · exact kx gl go od mr H locs ls (by rw [← hr, or_r_u, if_neg (by omega)]) hcn hlv hP hD hS (lv_sub hl [1, 2, 3] rfl)
    · refine lv_aload_n hx hb d_Model_order_65 rfl (lv_at hl 3 rfl) ?_
      refine va_get (D := (dC, dI)) (ci := 13) (v := .ref q_gateDff) (C := R_Model) (T := F_Model) (N := 71) hx hb hts i_Model hown hK hP 0 rfl rfl 57 (by decide) (hts _ k_931) (fun _ h9 => h9) rfl d_Model_order_66 ?_
      refine lv_iload_n hx hb d_Model_order_69 rfl (lv_at hl 0 rfl) ?_
      refine nv_zald hx hb hK hP 2 3 rfl rfl (by omega) (by decide) d_Model_order_70 ?_
      refine nv_bif_ne (tgt := 170) hx hb d_Model_order_71 (by decide) (fun c_2 => ?_) (fun c_2 => ?_)
      · refine lv_iinc (v := nI (i + 1)) (lv' := [(3, .int (nI (i + 1))), (2, .int (bI mr)), (1, .int (nI nn)), (0, .ref qm)]) hx hb d_Model_order_170 hl (k := 0) rfl (nI_1 _) (by decide) rfl (fun ls hl => ?_)
        refine lv_goto (tgt := 57) hx hb d_Model_order_173 (by decide) ?_
        have e1 : or_1 gd gb ga gb_ i (gl, go, od, mr) = (gl, go, od, mr) := or_1_n (Or.inl c_2)
        exact ih (i + 1) gl go od mr H locs ls (by omega) (by omega) hcn hlv (by rw [← hr, or_r_u _ _ _ _ _ i, if_pos (by omega), e1]) hP hD hS (lv_sub hl [0, 1, 2, 3] rfl)
      · refine lv_aload_n hx hb d_Model_order_74 rfl (lv_at hl 3 rfl) ?_
        refine va_get (D := (dC, dI)) (ci := 13) (v := .ref q_gateLevel) (C := R_Model) (T := F_Model) (N := 71) hx hb hts i_Model hown hK hP 0 rfl rfl 59 (by decide) (hts _ k_933) (fun _ h9 => h9) rfl d_Model_order_75 ?_
        refine lv_iload_n hx hb d_Model_order_78 rfl (lv_at hl 0 rfl) ?_
        refine nv_iald hx hb hK hP 1 1 rfl rfl (by omega) (by decide) d_Model_order_79 ?_
        refine lv_iconst (v := (-1)) hx hb d_Model_order_80 (by decide) ?_
        refine nv_oicmp_eq (tgt := 87) hx hb (fun z9 h9 => by have := hlv i z9 (by omega) h9; have := cnt_le gl gc; omega) d_Model_order_81 (by decide) (fun c_3 => ?_) (fun c_3 => ?_)
        · refine lv_aload_n hx hb d_Model_order_87 rfl (lv_at hl 3 rfl) ?_
          refine lv_aload_n hx hb d_Model_order_88 rfl (lv_at hl 3 rfl) ?_
          refine va_get (D := (dC, dI)) (ci := 13) (v := .ref q_gateA) (C := R_Model) (T := F_Model) (N := 71) hx hb hts i_Model hown hK hP 0 rfl rfl 62 (by decide) (hts _ k_936) (fun _ h9 => h9) rfl d_Model_order_89 ?_
          refine lv_iload_n hx hb d_Model_order_92 rfl (lv_at hl 0 rfl) ?_
          refine nv_iald hx hb hK hP 3 1 rfl rfl (by omega) (by decide) d_Model_order_93 ?_
          refine wc_i (wc := [(qm, .inr (13, [f0, f1, f2, f3, f4, f5, f6, f7, f8, f9, f10, f11, f12, f13, f14, f15, f16, f17, f18, f19, f20, f21, f22, f23, f24, f25, f26, f27, f28, f29, f30, f31, f32, f33, f34, f35, f36, f37, f38, f39, f40, f41, f42, f43, f44, f45, f46, f47, f48, f49, f50, f51, f52, f53, f54, .ref q_gateOfBit, .int (nI gc), .ref q_gateDff, f58, .ref q_gateLevel, .ref q_gateOrder, .int (nI od), .ref q_gateA, .ref q_gateB, f64, f65, f66, f67, f68, f69, f70])), (q_gateOfBit, .inl (cI, 8000, .inl (nF gb))), (q_gateDff, .inl (cZ, 300, .inl (bF gd))), (q_gateLevel, .inl (cI, 300, .inl (oF gl)))]) (wr := [(q_gateA, .inl (cI, 300, .inl (zF ga))), (q_gateB, .inl (cI, 300, .inl (zF gb_))), (q_gateOrder, .inl (cI, 300, .inl (nF go)))]) (va_runV (As := [.int (zI (ga i))]) (rest := []) ⟨hx, hb, hml, hown, hts⟩ (c_Model_levelOf l dC dI cB cI cL cZ cC cO gb gd gl (ga i) _ (hg i (by omega)).1.1 hgb) (cwV 1 hts (good_V k_1319 k_1321 s_Model_levelOf k_19 k_1322) rfl rfl rfl (by decide +kernel) ⟨Nat.le_of_ble_eq_true rfl, Nat.le_of_ble_eq_true rfl⟩) (wc_preV (k0 := 0) (ci := 13) (r := (R_Model, F_Model, 71)) hK hP hD hS hA hF [0, 5, 2, 1] (by decide) rfl rfl rfl) rfl rfl hl.1 rfl (lv_room (Nat.le_of_ble_eq_true rfl)) d_Model_order_94 ⟨Nat.le_of_ble_eq_true rfl, Nat.le_of_ble_eq_true rfl⟩) hP hD hS hA [0, 5, 2, 1] [3, 4, 6] rfl rfl (by decide) (by decide) (fun r_5 u H locs w_4 hP hD hS => ?_)
          have hP : va_P (dC, dI) cl [(q_gateA, .inl (cI, 300, .inl (zF ga))), (q_gateB, .inl (cI, 300, .inl (zF gb_))), (q_gateOrder, .inl (cI, 300, .inl (nF go))), (qm, .inr (13, [f0, f1, f2, f3, f4, f5, f6, f7, f8, f9, f10, f11, f12, f13, f14, f15, f16, f17, f18, f19, f20, f21, f22, f23, f24, f25, f26, f27, f28, f29, f30, f31, f32, f33, f34, f35, f36, f37, f38, f39, f40, f41, f42, f43, f44, f45, f46, f47, f48, f49, f50, f51, f52, f53, f54, .ref q_gateOfBit, .int (nI gc), .ref q_gateDff, f58, .ref q_gateLevel, .ref q_gateOrder, .int (nI od), .ref q_gateA, .ref q_gateB, f64, f65, f66, f67, f68, f69, f70])), (q_gateOfBit, .inl (cI, 8000, .inl (nF gb))), (q_gateDff, .inl (cZ, 300, .inl (bF gd))), (q_gateLevel, .inl (cI, 300, .inl (oF gl)))] H := hP
          have hD : va_D A [(q_gateA, .inl (cI, 300, .inl (zF ga))), (q_gateB, .inl (cI, 300, .inl (zF gb_))), (q_gateOrder, .inl (cI, 300, .inl (nF go))), (qm, .inr (13, [f0, f1, f2, f3, f4, f5, f6, f7, f8, f9, f10, f11, f12, f13, f14, f15, f16, f17, f18, f19, f20, f21, f22, f23, f24, f25, f26, f27, f28, f29, f30, f31, f32, f33, f34, f35, f36, f37, f38, f39, f40, f41, f42, f43, f44, f45, f46, f47, f48, f49, f50, f51, f52, f53, f54, .ref q_gateOfBit, .int (nI gc), .ref q_gateDff, f58, .ref q_gateLevel, .ref q_gateOrder, .int (nI od), .ref q_gateA, .ref q_gateB, f64, f65, f66, f67, f68, f69, f70])), (q_gateOfBit, .inl (cI, 8000, .inl (nF gb))), (q_gateDff, .inl (cZ, 300, .inl (bF gd))), (q_gateLevel, .inl (cI, 300, .inl (oF gl)))] := hD
          subst w_4
          refine lv_istore (lv' := [(4, .int (oI (lo gb gd gl (ga i)))), (3, .int (nI i)), (2, .int (bI mr)), (1, .int (nI nn)), (0, .ref qm)]) hx hb d_Model_order_97 hl (by decide) rfl (fun ls hl => ?_)
          refine lv_aload_n hx hb d_Model_order_99 rfl (lv_at hl 4 rfl) ?_
          refine lv_aload_n hx hb d_Model_order_100 rfl (lv_at hl 4 rfl) ?_
          refine va_get (D := (dC, dI)) (ci := 13) (v := .ref q_gateB) (C := R_Model) (T := F_Model) (N := 71) hx hb hts i_Model hown hK hP 3 rfl rfl 63 (by decide) (hts _ k_937) (fun _ h9 => h9) rfl d_Model_order_101 ?_
          refine lv_iload_n hx hb d_Model_order_104 rfl (lv_at hl 1 rfl) ?_
          refine nv_iald hx hb hK hP 1 1 rfl rfl (by omega) (by decide) d_Model_order_105 ?_
          refine wc_i (wc := [(qm, .inr (13, [f0, f1, f2, f3, f4, f5, f6, f7, f8, f9, f10, f11, f12, f13, f14, f15, f16, f17, f18, f19, f20, f21, f22, f23, f24, f25, f26, f27, f28, f29, f30, f31, f32, f33, f34, f35, f36, f37, f38, f39, f40, f41, f42, f43, f44, f45, f46, f47, f48, f49, f50, f51, f52, f53, f54, .ref q_gateOfBit, .int (nI gc), .ref q_gateDff, f58, .ref q_gateLevel, .ref q_gateOrder, .int (nI od), .ref q_gateA, .ref q_gateB, f64, f65, f66, f67, f68, f69, f70])), (q_gateOfBit, .inl (cI, 8000, .inl (nF gb))), (q_gateDff, .inl (cZ, 300, .inl (bF gd))), (q_gateLevel, .inl (cI, 300, .inl (oF gl)))]) (wr := [(q_gateA, .inl (cI, 300, .inl (zF ga))), (q_gateB, .inl (cI, 300, .inl (zF gb_))), (q_gateOrder, .inl (cI, 300, .inl (nF go)))]) (va_runV (As := [.int (zI (gb_ i))]) (rest := []) ⟨hx, hb, hml, hown, hts⟩ (c_Model_levelOf l dC dI cB cI cL cZ cC cO gb gd gl (gb_ i) _ (hg i (by omega)).1.2 hgb) (cwV 1 hts (good_V k_1319 k_1321 s_Model_levelOf k_19 k_1322) rfl rfl rfl (by decide +kernel) ⟨Nat.le_of_ble_eq_true rfl, Nat.le_of_ble_eq_true rfl⟩) (wc_preV (k0 := 3) (ci := 13) (r := (R_Model, F_Model, 71)) hK hP hD hS hA hF [3, 4, 5, 6] (by decide) rfl rfl rfl) rfl rfl hl.1 rfl (lv_room (Nat.le_of_ble_eq_true rfl)) d_Model_order_106 ⟨Nat.le_of_ble_eq_true rfl, Nat.le_of_ble_eq_true rfl⟩) hP hD hS hA [3, 4, 5, 6] [0, 1, 2] rfl rfl (by decide) (by decide) (fun r_7 u H locs w_6 hP hD hS => ?_)
          have hP : va_P (dC, dI) cl [(q_gateA, .inl (cI, 300, .inl (zF ga))), (q_gateB, .inl (cI, 300, .inl (zF gb_))), (q_gateOrder, .inl (cI, 300, .inl (nF go))), (qm, .inr (13, [f0, f1, f2, f3, f4, f5, f6, f7, f8, f9, f10, f11, f12, f13, f14, f15, f16, f17, f18, f19, f20, f21, f22, f23, f24, f25, f26, f27, f28, f29, f30, f31, f32, f33, f34, f35, f36, f37, f38, f39, f40, f41, f42, f43, f44, f45, f46, f47, f48, f49, f50, f51, f52, f53, f54, .ref q_gateOfBit, .int (nI gc), .ref q_gateDff, f58, .ref q_gateLevel, .ref q_gateOrder, .int (nI od), .ref q_gateA, .ref q_gateB, f64, f65, f66, f67, f68, f69, f70])), (q_gateOfBit, .inl (cI, 8000, .inl (nF gb))), (q_gateDff, .inl (cZ, 300, .inl (bF gd))), (q_gateLevel, .inl (cI, 300, .inl (oF gl)))] H := hP
          have hD : va_D A [(q_gateA, .inl (cI, 300, .inl (zF ga))), (q_gateB, .inl (cI, 300, .inl (zF gb_))), (q_gateOrder, .inl (cI, 300, .inl (nF go))), (qm, .inr (13, [f0, f1, f2, f3, f4, f5, f6, f7, f8, f9, f10, f11, f12, f13, f14, f15, f16, f17, f18, f19, f20, f21, f22, f23, f24, f25, f26, f27, f28, f29, f30, f31, f32, f33, f34, f35, f36, f37, f38, f39, f40, f41, f42, f43, f44, f45, f46, f47, f48, f49, f50, f51, f52, f53, f54, .ref q_gateOfBit, .int (nI gc), .ref q_gateDff, f58, .ref q_gateLevel, .ref q_gateOrder, .int (nI od), .ref q_gateA, .ref q_gateB, f64, f65, f66, f67, f68, f69, f70])), (q_gateOfBit, .inl (cI, 8000, .inl (nF gb))), (q_gateDff, .inl (cZ, 300, .inl (bF gd))), (q_gateLevel, .inl (cI, 300, .inl (oF gl)))] := hD
          subst w_6
          refine lv_istore (lv' := [(5, .int (oI (lo gb gd gl (gb_ i)))), (4, .int (oI (lo gb gd gl (ga i)))), (3, .int (nI i)), (2, .int (bI mr)), (1, .int (nI nn)), (0, .ref qm)]) hx hb d_Model_order_109 hl (by decide) rfl (fun ls hl => ?_)
          refine lv_iload hx hb d_Model_order_111 (lv_at hl 1 rfl) ?_
          refine lv_iconst (v := (-1)) hx hb d_Model_order_113 (by decide) ?_
          refine nv_oicmp_eq (tgt := 170) hx hb (fun z9 h9 => by have := lo_le hlv (hg i (by omega)).2.1 z9 h9; have := cnt_le gl gc; omega) d_Model_order_114 (by decide) (fun c_8 => ?_) (fun c_8 => ?_)
          · refine lv_iinc (v := nI (i + 1)) (lv' := [(3, .int (nI (i + 1))), (5, .int (oI (lo gb gd gl (gb_ i)))), (4, .int (oI (lo gb gd gl (ga i)))), (2, .int (bI mr)), (1, .int (nI nn)), (0, .ref qm)]) hx hb d_Model_order_170 hl (k := 2) rfl (nI_1 _) (by decide) rfl (fun ls hl => ?_)
            refine lv_goto (tgt := 57) hx hb d_Model_order_173 (by decide) ?_
            have e1 : or_1 gd gb ga gb_ i (gl, go, od, mr) = (gl, go, od, mr) := or_1_o (Or.inl c_8)
            exact ih (i + 1) gl go od mr H locs ls (by omega) (by omega) hcn hlv (by rw [← hr, or_r_u _ _ _ _ _ i, if_pos (by omega), e1]) (hP.sub [3, 6, 5, 0, 1, 4, 2] rfl) (hD.sub [3, 6, 5, 0, 1, 4, 2] (by decide) rfl) hS (lv_sub hl [0, 3, 4, 5] rfl)
          · refine lv_iload hx hb d_Model_order_117 (lv_at hl 0 rfl) ?_
            refine lv_iconst (v := (-1)) hx hb d_Model_order_119 (by decide) ?_
            refine nv_oicmp_ne (tgt := 126) hx hb (fun z9 h9 => by have := lo_le hlv (hg i (by omega)).2.2 z9 h9; have := cnt_le gl gc; omega) d_Model_order_120 (by decide) (fun c_9 => ?_) (fun c_9 => ?_)
            · obtain ⟨xa, hxa⟩ : ∃ z, lo gb gd gl (ga i) = some z := Option.ne_none_iff_exists'.mp c_8
              obtain ⟨xb, hxb⟩ : ∃ z, lo gb gd gl (gb_ i) = some z := Option.ne_none_iff_exists'.mp c_9
              rw [hxa, hxb] at hl
              have hla := lo_le hlv (hg i (by omega)).2.1 xa hxa
              have hlb := lo_le hlv (hg i (by omega)).2.2 xb hxb
              have hgd : gd i = false := c_2
              have hgn : gl i = none := c_3
              have hod := cnt_lt hgn gc (by omega)
              have hl : lv_has ls 6 [(5, .int (nI xb)), (4, .int (nI xa)), (3, .int (nI i)), (2, .int (bI mr)), (1, .int (nI nn)), (0, .ref qm)] := hl
              refine lv_aload_n hx hb d_Model_order_126 rfl (lv_at hl 5 rfl) ?_
              refine va_get (D := (dC, dI)) (ci := 13) (v := .ref q_gateLevel) (C := R_Model) (T := F_Model) (N := 71) hx hb hts i_Model hown hK hP 3 rfl rfl 59 (by decide) (hts _ k_933) (fun _ h9 => h9) rfl d_Model_order_127 ?_
              refine lv_iload_n hx hb d_Model_order_130 rfl (lv_at hl 2 rfl) ?_
              refine lv_iconst (v := nI 1) hx hb d_Model_order_131 (by decide) ?_
              refine lv_iload hx hb d_Model_order_132 (lv_at hl 1 rfl) ?_
              refine lv_iload hx hb d_Model_order_134 (lv_at hl 0 rfl) ?_
              refine nv_icmp_le (tgt := 144) hx hb (by omega) (by omega) d_Model_order_136 (by decide) (fun c_10 => ?_) (fun c_10 => ?_)
              · refine lv_iload hx hb d_Model_order_144 (lv_at hl 0 rfl) ?_
                refine nv_iadd hx hb d_Model_order_146 ?_
                refine nv_iastO (x := some (1 + xb)) hx hb hK hP hD hS 6 1 rfl rfl (by omega) (by decide) d_Model_order_147 (fun H locs hP hD hS => ?_)
                have hP : va_P (dC, dI) cl [(q_gateA, .inl (cI, 300, .inl (zF ga))), (q_gateB, .inl (cI, 300, .inl (zF gb_))), (q_gateOrder, .inl (cI, 300, .inl (nF go))), (qm, .inr (13, [f0, f1, f2, f3, f4, f5, f6, f7, f8, f9, f10, f11, f12, f13, f14, f15, f16, f17, f18, f19, f20, f21, f22, f23, f24, f25, f26, f27, f28, f29, f30, f31, f32, f33, f34, f35, f36, f37, f38, f39, f40, f41, f42, f43, f44, f45, f46, f47, f48, f49, f50, f51, f52, f53, f54, .ref q_gateOfBit, .int (nI gc), .ref q_gateDff, f58, .ref q_gateLevel, .ref q_gateOrder, .int (nI od), .ref q_gateA, .ref q_gateB, f64, f65, f66, f67, f68, f69, f70])), (q_gateOfBit, .inl (cI, 8000, .inl (nF gb))), (q_gateDff, .inl (cZ, 300, .inl (bF gd))), (q_gateLevel, .inl (cI, 300, .inl (oF (va_up gl i (some (1 + xb))))))] H := hP
                have hD : va_D A [(q_gateA, .inl (cI, 300, .inl (zF ga))), (q_gateB, .inl (cI, 300, .inl (zF gb_))), (q_gateOrder, .inl (cI, 300, .inl (nF go))), (qm, .inr (13, [f0, f1, f2, f3, f4, f5, f6, f7, f8, f9, f10, f11, f12, f13, f14, f15, f16, f17, f18, f19, f20, f21, f22, f23, f24, f25, f26, f27, f28, f29, f30, f31, f32, f33, f34, f35, f36, f37, f38, f39, f40, f41, f42, f43, f44, f45, f46, f47, f48, f49, f50, f51, f52, f53, f54, .ref q_gateOfBit, .int (nI gc), .ref q_gateDff, f58, .ref q_gateLevel, .ref q_gateOrder, .int (nI od), .ref q_gateA, .ref q_gateB, f64, f65, f66, f67, f68, f69, f70])), (q_gateOfBit, .inl (cI, 8000, .inl (nF gb))), (q_gateDff, .inl (cZ, 300, .inl (bF gd))), (q_gateLevel, .inl (cI, 300, .inl (oF (va_up gl i (some (1 + xb))))))] := hD
                refine lv_aload_n hx hb d_Model_order_148 rfl (lv_at hl 5 rfl) ?_
                refine va_get (D := (dC, dI)) (ci := 13) (v := .ref q_gateOrder) (C := R_Model) (T := F_Model) (N := 71) hx hb hts i_Model hown hK hP 3 rfl rfl 60 (by decide) (hts _ k_934) (fun _ h9 => h9) rfl d_Model_order_149 ?_
                refine lv_aload_n hx hb d_Model_order_152 rfl (lv_at hl 5 rfl) ?_
                refine va_get (D := (dC, dI)) (ci := 13) (v := .int (nI od)) (C := R_Model) (T := F_Model) (N := 71) hx hb hts i_Model hown hK hP 3 rfl rfl 61 (by decide) (hts _ k_935) (fun _ h9 => h9) rfl d_Model_order_153 ?_
                refine lv_iload_n hx hb d_Model_order_156 rfl (lv_at hl 2 rfl) ?_
                refine nv_iastN (x := i) hx hb hK hP hD hS 2 1 rfl rfl (by omega) (by decide) d_Model_order_157 (fun H locs hP hD hS => ?_)
                have hP : va_P (dC, dI) cl [(q_gateA, .inl (cI, 300, .inl (zF ga))), (q_gateB, .inl (cI, 300, .inl (zF gb_))), (q_gateOrder, .inl (cI, 300, .inl (nF (va_up go od i)))), (qm, .inr (13, [f0, f1, f2, f3, f4, f5, f6, f7, f8, f9, f10, f11, f12, f13, f14, f15, f16, f17, f18, f19, f20, f21, f22, f23, f24, f25, f26, f27, f28, f29, f30, f31, f32, f33, f34, f35, f36, f37, f38, f39, f40, f41, f42, f43, f44, f45, f46, f47, f48, f49, f50, f51, f52, f53, f54, .ref q_gateOfBit, .int (nI gc), .ref q_gateDff, f58, .ref q_gateLevel, .ref q_gateOrder, .int (nI od), .ref q_gateA, .ref q_gateB, f64, f65, f66, f67, f68, f69, f70])), (q_gateOfBit, .inl (cI, 8000, .inl (nF gb))), (q_gateDff, .inl (cZ, 300, .inl (bF gd))), (q_gateLevel, .inl (cI, 300, .inl (oF (va_up gl i (some (1 + xb))))))] H := hP
                have hD : va_D A [(q_gateA, .inl (cI, 300, .inl (zF ga))), (q_gateB, .inl (cI, 300, .inl (zF gb_))), (q_gateOrder, .inl (cI, 300, .inl (nF (va_up go od i)))), (qm, .inr (13, [f0, f1, f2, f3, f4, f5, f6, f7, f8, f9, f10, f11, f12, f13, f14, f15, f16, f17, f18, f19, f20, f21, f22, f23, f24, f25, f26, f27, f28, f29, f30, f31, f32, f33, f34, f35, f36, f37, f38, f39, f40, f41, f42, f43, f44, f45, f46, f47, f48, f49, f50, f51, f52, f53, f54, .ref q_gateOfBit, .int (nI gc), .ref q_gateDff, f58, .ref q_gateLevel, .ref q_gateOrder, .int (nI od), .ref q_gateA, .ref q_gateB, f64, f65, f66, f67, f68, f69, f70])), (q_gateOfBit, .inl (cI, 8000, .inl (nF gb))), (q_gateDff, .inl (cZ, 300, .inl (bF gd))), (q_gateLevel, .inl (cI, 300, .inl (oF (va_up gl i (some (1 + xb))))))] := hD
                refine lv_aload_n hx hb d_Model_order_158 rfl (lv_at hl 5 rfl) ?_
                refine lv_aload_n hx hb d_Model_order_159 rfl (lv_at hl 5 rfl) ?_
                refine va_get (D := (dC, dI)) (ci := 13) (v := .int (nI od)) (C := R_Model) (T := F_Model) (N := 71) hx hb hts i_Model hown hK hP 3 rfl rfl 61 (by decide) (hts _ k_935) (fun _ h9 => h9) rfl d_Model_order_160 ?_
                refine lv_iconst (v := nI 1) hx hb d_Model_order_163 (by decide) ?_
                refine nv_iadd hx hb d_Model_order_164 ?_
                refine va_put (D := (dC, dI)) (ci := 13) (v := .int (nI (od + 1))) (ty := .int) (C := R_Model) (T := F_Model) (N := 71) hx hb hts i_Model t_Model t_Model_ok n_Model hown hK hP hD hS 3 rfl rfl 61 (by decide) (hts _ k_935) (fun _ h9 => h9) rfl (by decide +kernel) rfl rfl (Nat.le_of_ble_eq_true rfl) d_Model_order_165 (fun H locs hP hD hS => ?_)
                have hP : va_P (dC, dI) cl [(q_gateA, .inl (cI, 300, .inl (zF ga))), (q_gateB, .inl (cI, 300, .inl (zF gb_))), (q_gateOrder, .inl (cI, 300, .inl (nF (va_up go od i)))), (qm, .inr (13, [f0, f1, f2, f3, f4, f5, f6, f7, f8, f9, f10, f11, f12, f13, f14, f15, f16, f17, f18, f19, f20, f21, f22, f23, f24, f25, f26, f27, f28, f29, f30, f31, f32, f33, f34, f35, f36, f37, f38, f39, f40, f41, f42, f43, f44, f45, f46, f47, f48, f49, f50, f51, f52, f53, f54, .ref q_gateOfBit, .int (nI gc), .ref q_gateDff, f58, .ref q_gateLevel, .ref q_gateOrder, .int (nI (od + 1)), .ref q_gateA, .ref q_gateB, f64, f65, f66, f67, f68, f69, f70])), (q_gateOfBit, .inl (cI, 8000, .inl (nF gb))), (q_gateDff, .inl (cZ, 300, .inl (bF gd))), (q_gateLevel, .inl (cI, 300, .inl (oF (va_up gl i (some (1 + xb))))))] H := hP
                have hD : va_D A [(q_gateA, .inl (cI, 300, .inl (zF ga))), (q_gateB, .inl (cI, 300, .inl (zF gb_))), (q_gateOrder, .inl (cI, 300, .inl (nF (va_up go od i)))), (qm, .inr (13, [f0, f1, f2, f3, f4, f5, f6, f7, f8, f9, f10, f11, f12, f13, f14, f15, f16, f17, f18, f19, f20, f21, f22, f23, f24, f25, f26, f27, f28, f29, f30, f31, f32, f33, f34, f35, f36, f37, f38, f39, f40, f41, f42, f43, f44, f45, f46, f47, f48, f49, f50, f51, f52, f53, f54, .ref q_gateOfBit, .int (nI gc), .ref q_gateDff, f58, .ref q_gateLevel, .ref q_gateOrder, .int (nI (od + 1)), .ref q_gateA, .ref q_gateB, f64, f65, f66, f67, f68, f69, f70])), (q_gateOfBit, .inl (cI, 8000, .inl (nF gb))), (q_gateDff, .inl (cZ, 300, .inl (bF gd))), (q_gateLevel, .inl (cI, 300, .inl (oF (va_up gl i (some (1 + xb))))))] := hD
                refine lv_iconst (v := nI 1) hx hb d_Model_order_168 (by decide) ?_
                refine lv_istore_n (lv' := [(2, .int (nI 1)), (5, .int (nI xb)), (4, .int (nI xa)), (3, .int (nI i)), (1, .int (nI nn)), (0, .ref qm)]) hx hb d_Model_order_169 rfl hl (by decide) rfl (fun ls hl => ?_)
                refine lv_iinc (v := nI (i + 1)) (lv' := [(3, .int (nI (i + 1))), (2, .int (nI 1)), (5, .int (nI xb)), (4, .int (nI xa)), (1, .int (nI nn)), (0, .ref qm)]) hx hb d_Model_order_170 hl (k := 3) rfl (nI_1 _) (by decide) rfl (fun ls hl => ?_)
                refine lv_goto (tgt := 57) hx hb d_Model_order_173 (by decide) ?_
                have e1 : or_1 gd gb ga gb_ i (gl, go, od, mr) = (va_up gl i (some (1 + xb)), va_up go od i, od + 1, true) := by rw [or_1_s hgd hgn hxa hxb, if_neg (by omega)]
                exact ih (i + 1) _ _ (od + 1) true H locs ls (by omega) (by omega) (by rw [cnt_up hgn gc (by omega), ← hcn]) (fun i9 z9 hi9 h9 => by unfold va_up at h9; split at h9; cases h9; omega; have := hlv i9 z9 hi9 h9; omega) (by rw [← hr, or_r_u _ _ _ _ _ i, if_pos (by omega), e1]) (hP.sub [3, 6, 5, 0, 1, 4, 2] rfl) (hD.sub [3, 6, 5, 0, 1, 4, 2] (by decide) rfl) hS (lv_sub hl [0, 1, 4, 5] rfl)
              · refine lv_iload hx hb d_Model_order_139 (lv_at hl 1 rfl) ?_
                refine lv_goto (tgt := 146) hx hb d_Model_order_141 (by decide) ?_
                refine nv_iadd hx hb d_Model_order_146 ?_
                refine nv_iastO (x := some (1 + xa)) hx hb hK hP hD hS 6 1 rfl rfl (by omega) (by decide) d_Model_order_147 (fun H locs hP hD hS => ?_)
                have hP : va_P (dC, dI) cl [(q_gateA, .inl (cI, 300, .inl (zF ga))), (q_gateB, .inl (cI, 300, .inl (zF gb_))), (q_gateOrder, .inl (cI, 300, .inl (nF go))), (qm, .inr (13, [f0, f1, f2, f3, f4, f5, f6, f7, f8, f9, f10, f11, f12, f13, f14, f15, f16, f17, f18, f19, f20, f21, f22, f23, f24, f25, f26, f27, f28, f29, f30, f31, f32, f33, f34, f35, f36, f37, f38, f39, f40, f41, f42, f43, f44, f45, f46, f47, f48, f49, f50, f51, f52, f53, f54, .ref q_gateOfBit, .int (nI gc), .ref q_gateDff, f58, .ref q_gateLevel, .ref q_gateOrder, .int (nI od), .ref q_gateA, .ref q_gateB, f64, f65, f66, f67, f68, f69, f70])), (q_gateOfBit, .inl (cI, 8000, .inl (nF gb))), (q_gateDff, .inl (cZ, 300, .inl (bF gd))), (q_gateLevel, .inl (cI, 300, .inl (oF (va_up gl i (some (1 + xa))))))] H := hP
                have hD : va_D A [(q_gateA, .inl (cI, 300, .inl (zF ga))), (q_gateB, .inl (cI, 300, .inl (zF gb_))), (q_gateOrder, .inl (cI, 300, .inl (nF go))), (qm, .inr (13, [f0, f1, f2, f3, f4, f5, f6, f7, f8, f9, f10, f11, f12, f13, f14, f15, f16, f17, f18, f19, f20, f21, f22, f23, f24, f25, f26, f27, f28, f29, f30, f31, f32, f33, f34, f35, f36, f37, f38, f39, f40, f41, f42, f43, f44, f45, f46, f47, f48, f49, f50, f51, f52, f53, f54, .ref q_gateOfBit, .int (nI gc), .ref q_gateDff, f58, .ref q_gateLevel, .ref q_gateOrder, .int (nI od), .ref q_gateA, .ref q_gateB, f64, f65, f66, f67, f68, f69, f70])), (q_gateOfBit, .inl (cI, 8000, .inl (nF gb))), (q_gateDff, .inl (cZ, 300, .inl (bF gd))), (q_gateLevel, .inl (cI, 300, .inl (oF (va_up gl i (some (1 + xa))))))] := hD
                refine lv_aload_n hx hb d_Model_order_148 rfl (lv_at hl 5 rfl) ?_
                refine va_get (D := (dC, dI)) (ci := 13) (v := .ref q_gateOrder) (C := R_Model) (T := F_Model) (N := 71) hx hb hts i_Model hown hK hP 3 rfl rfl 60 (by decide) (hts _ k_934) (fun _ h9 => h9) rfl d_Model_order_149 ?_
                refine lv_aload_n hx hb d_Model_order_152 rfl (lv_at hl 5 rfl) ?_
                refine va_get (D := (dC, dI)) (ci := 13) (v := .int (nI od)) (C := R_Model) (T := F_Model) (N := 71) hx hb hts i_Model hown hK hP 3 rfl rfl 61 (by decide) (hts _ k_935) (fun _ h9 => h9) rfl d_Model_order_153 ?_
                refine lv_iload_n hx hb d_Model_order_156 rfl (lv_at hl 2 rfl) ?_
                refine nv_iastN (x := i) hx hb hK hP hD hS 2 1 rfl rfl (by omega) (by decide) d_Model_order_157 (fun H locs hP hD hS => ?_)
                have hP : va_P (dC, dI) cl [(q_gateA, .inl (cI, 300, .inl (zF ga))), (q_gateB, .inl (cI, 300, .inl (zF gb_))), (q_gateOrder, .inl (cI, 300, .inl (nF (va_up go od i)))), (qm, .inr (13, [f0, f1, f2, f3, f4, f5, f6, f7, f8, f9, f10, f11, f12, f13, f14, f15, f16, f17, f18, f19, f20, f21, f22, f23, f24, f25, f26, f27, f28, f29, f30, f31, f32, f33, f34, f35, f36, f37, f38, f39, f40, f41, f42, f43, f44, f45, f46, f47, f48, f49, f50, f51, f52, f53, f54, .ref q_gateOfBit, .int (nI gc), .ref q_gateDff, f58, .ref q_gateLevel, .ref q_gateOrder, .int (nI od), .ref q_gateA, .ref q_gateB, f64, f65, f66, f67, f68, f69, f70])), (q_gateOfBit, .inl (cI, 8000, .inl (nF gb))), (q_gateDff, .inl (cZ, 300, .inl (bF gd))), (q_gateLevel, .inl (cI, 300, .inl (oF (va_up gl i (some (1 + xa))))))] H := hP
                have hD : va_D A [(q_gateA, .inl (cI, 300, .inl (zF ga))), (q_gateB, .inl (cI, 300, .inl (zF gb_))), (q_gateOrder, .inl (cI, 300, .inl (nF (va_up go od i)))), (qm, .inr (13, [f0, f1, f2, f3, f4, f5, f6, f7, f8, f9, f10, f11, f12, f13, f14, f15, f16, f17, f18, f19, f20, f21, f22, f23, f24, f25, f26, f27, f28, f29, f30, f31, f32, f33, f34, f35, f36, f37, f38, f39, f40, f41, f42, f43, f44, f45, f46, f47, f48, f49, f50, f51, f52, f53, f54, .ref q_gateOfBit, .int (nI gc), .ref q_gateDff, f58, .ref q_gateLevel, .ref q_gateOrder, .int (nI od), .ref q_gateA, .ref q_gateB, f64, f65, f66, f67, f68, f69, f70])), (q_gateOfBit, .inl (cI, 8000, .inl (nF gb))), (q_gateDff, .inl (cZ, 300, .inl (bF gd))), (q_gateLevel, .inl (cI, 300, .inl (oF (va_up gl i (some (1 + xa))))))] := hD
                refine lv_aload_n hx hb d_Model_order_158 rfl (lv_at hl 5 rfl) ?_
                refine lv_aload_n hx hb d_Model_order_159 rfl (lv_at hl 5 rfl) ?_
                refine va_get (D := (dC, dI)) (ci := 13) (v := .int (nI od)) (C := R_Model) (T := F_Model) (N := 71) hx hb hts i_Model hown hK hP 3 rfl rfl 61 (by decide) (hts _ k_935) (fun _ h9 => h9) rfl d_Model_order_160 ?_
                refine lv_iconst (v := nI 1) hx hb d_Model_order_163 (by decide) ?_
                refine nv_iadd hx hb d_Model_order_164 ?_
                refine va_put (D := (dC, dI)) (ci := 13) (v := .int (nI (od + 1))) (ty := .int) (C := R_Model) (T := F_Model) (N := 71) hx hb hts i_Model t_Model t_Model_ok n_Model hown hK hP hD hS 3 rfl rfl 61 (by decide) (hts _ k_935) (fun _ h9 => h9) rfl (by decide +kernel) rfl rfl (Nat.le_of_ble_eq_true rfl) d_Model_order_165 (fun H locs hP hD hS => ?_)
                have hP : va_P (dC, dI) cl [(q_gateA, .inl (cI, 300, .inl (zF ga))), (q_gateB, .inl (cI, 300, .inl (zF gb_))), (q_gateOrder, .inl (cI, 300, .inl (nF (va_up go od i)))), (qm, .inr (13, [f0, f1, f2, f3, f4, f5, f6, f7, f8, f9, f10, f11, f12, f13, f14, f15, f16, f17, f18, f19, f20, f21, f22, f23, f24, f25, f26, f27, f28, f29, f30, f31, f32, f33, f34, f35, f36, f37, f38, f39, f40, f41, f42, f43, f44, f45, f46, f47, f48, f49, f50, f51, f52, f53, f54, .ref q_gateOfBit, .int (nI gc), .ref q_gateDff, f58, .ref q_gateLevel, .ref q_gateOrder, .int (nI (od + 1)), .ref q_gateA, .ref q_gateB, f64, f65, f66, f67, f68, f69, f70])), (q_gateOfBit, .inl (cI, 8000, .inl (nF gb))), (q_gateDff, .inl (cZ, 300, .inl (bF gd))), (q_gateLevel, .inl (cI, 300, .inl (oF (va_up gl i (some (1 + xa))))))] H := hP
                have hD : va_D A [(q_gateA, .inl (cI, 300, .inl (zF ga))), (q_gateB, .inl (cI, 300, .inl (zF gb_))), (q_gateOrder, .inl (cI, 300, .inl (nF (va_up go od i)))), (qm, .inr (13, [f0, f1, f2, f3, f4, f5, f6, f7, f8, f9, f10, f11, f12, f13, f14, f15, f16, f17, f18, f19, f20, f21, f22, f23, f24, f25, f26, f27, f28, f29, f30, f31, f32, f33, f34, f35, f36, f37, f38, f39, f40, f41, f42, f43, f44, f45, f46, f47, f48, f49, f50, f51, f52, f53, f54, .ref q_gateOfBit, .int (nI gc), .ref q_gateDff, f58, .ref q_gateLevel, .ref q_gateOrder, .int (nI (od + 1)), .ref q_gateA, .ref q_gateB, f64, f65, f66, f67, f68, f69, f70])), (q_gateOfBit, .inl (cI, 8000, .inl (nF gb))), (q_gateDff, .inl (cZ, 300, .inl (bF gd))), (q_gateLevel, .inl (cI, 300, .inl (oF (va_up gl i (some (1 + xa))))))] := hD
                refine lv_iconst (v := nI 1) hx hb d_Model_order_168 (by decide) ?_
                refine lv_istore_n (lv' := [(2, .int (nI 1)), (5, .int (nI xb)), (4, .int (nI xa)), (3, .int (nI i)), (1, .int (nI nn)), (0, .ref qm)]) hx hb d_Model_order_169 rfl hl (by decide) rfl (fun ls hl => ?_)
                refine lv_iinc (v := nI (i + 1)) (lv' := [(3, .int (nI (i + 1))), (2, .int (nI 1)), (5, .int (nI xb)), (4, .int (nI xa)), (1, .int (nI nn)), (0, .ref qm)]) hx hb d_Model_order_170 hl (k := 3) rfl (nI_1 _) (by decide) rfl (fun ls hl => ?_)
                refine lv_goto (tgt := 57) hx hb d_Model_order_173 (by decide) ?_
                have e1 : or_1 gd gb ga gb_ i (gl, go, od, mr) = (va_up gl i (some (1 + xa)), va_up go od i, od + 1, true) := by rw [or_1_s hgd hgn hxa hxb, if_pos (by omega)]
                exact ih (i + 1) _ _ (od + 1) true H locs ls (by omega) (by omega) (by rw [cnt_up hgn gc (by omega), ← hcn]) (fun i9 z9 hi9 h9 => by unfold va_up at h9; split at h9; cases h9; omega; have := hlv i9 z9 hi9 h9; omega) (by rw [← hr, or_r_u _ _ _ _ _ i, if_pos (by omega), e1]) (hP.sub [3, 6, 5, 0, 1, 4, 2] rfl) (hD.sub [3, 6, 5, 0, 1, 4, 2] (by decide) rfl) hS (lv_sub hl [0, 1, 4, 5] rfl)
            · refine lv_goto (tgt := 170) hx hb d_Model_order_123 (by decide) ?_
              refine lv_iinc (v := nI (i + 1)) (lv' := [(3, .int (nI (i + 1))), (5, .int (oI (lo gb gd gl (gb_ i)))), (4, .int (oI (lo gb gd gl (ga i)))), (2, .int (bI mr)), (1, .int (nI nn)), (0, .ref qm)]) hx hb d_Model_order_170 hl (k := 2) rfl (nI_1 _) (by decide) rfl (fun ls hl => ?_)
              refine lv_goto (tgt := 57) hx hb d_Model_order_173 (by decide) ?_
              have e1 : or_1 gd gb ga gb_ i (gl, go, od, mr) = (gl, go, od, mr) := or_1_o (Or.inr c_9)
              exact ih (i + 1) gl go od mr H locs ls (by omega) (by omega) hcn hlv (by rw [← hr, or_r_u _ _ _ _ _ i, if_pos (by omega), e1]) (hP.sub [3, 6, 5, 0, 1, 4, 2] rfl) (hD.sub [3, 6, 5, 0, 1, 4, 2] (by decide) rfl) hS (lv_sub hl [0, 3, 4, 5] rfl)
        · refine lv_goto (tgt := 170) hx hb d_Model_order_84 (by decide) ?_
          refine lv_iinc (v := nI (i + 1)) (lv' := [(3, .int (nI (i + 1))), (2, .int (bI mr)), (1, .int (nI nn)), (0, .ref qm)]) hx hb d_Model_order_170 hl (k := 0) rfl (nI_1 _) (by decide) rfl (fun ls hl => ?_)
          refine lv_goto (tgt := 57) hx hb d_Model_order_173 (by decide) ?_
          have e1 : or_1 gd gb ga gb_ i (gl, go, od, mr) = (gl, go, od, mr) := or_1_n (Or.inr c_3)
          exact ih (i + 1) gl go od mr H locs ls (by omega) (by omega) hcn hlv (by rw [← hr, or_r_u _ _ _ _ _ i, if_pos (by omega), e1]) hP hD hS (lv_sub hl [0, 1, 2, 3] rfl)
def or_w (gd : Nat → Bool) (gb ga gb_ : Nat → Nat) (gc : Nat) : Nat → OR → OR
  | 0, S => S
  | k + 1, S => if (or_r gd gb ga gb_ gc 0 (S.1, S.2.1, S.2.2.1, false)).2.2.2 = true then or_w gd gb ga gb_ gc k (or_r gd gb ga gb_ gc 0 (S.1, S.2.1, S.2.2.1, false)) else or_r gd gb ga gb_ gc 0 (S.1, S.2.1, S.2.2.1, false)
theorem or_r_od {gd : Nat → Bool} {gb ga gb_ : Nat → Nat} : ∀ k i (S : OR), S.2.2.1 ≤ (or_r gd gb ga gb_ k i S).2.2.1 ∧ (S.2.2.2 = false → (or_r gd gb ga gb_ k i S).2.2.2 = true → S.2.2.1 < (or_r gd gb ga gb_ k i S).2.2.1)
  | 0, _, S => ⟨Nat.le_refl _, fun h1 h2 => by have h2 : S.2.2.2 = true := h2; rw [h1] at h2; cases h2⟩
  | k + 1, i, S => by
    have r := or_r_od (gd := gd) (gb := gb) (ga := ga) (gb_ := gb_) k (i + 1) (or_1 gd gb ga gb_ i S)
    have e : or_r gd gb ga gb_ (k + 1) i S = or_r gd gb ga gb_ k (i + 1) (or_1 gd gb ga gb_ i S) := rfl
    rw [e]
    have h1 : or_1 gd gb ga gb_ i S = S ∨ (or_1 gd gb ga gb_ i S).2.2.1 = S.2.2.1 + 1 := by
      unfold or_1; split
      · exact Or.inl rfl
      · split
        · exact Or.inl rfl
        · exact Or.inr rfl
    rcases h1 with h1 | h1
    · rw [h1] at r ⊢; exact r
    · exact ⟨by omega, fun _ _ => by omega⟩
theorem ow_m {gd : Nat → Bool} {gb ga gb_ : Nat → Nat} {gc k : Nat} {gl : Nat → Option Nat} {go : Nat → Nat} {od : Nat} {m1 m2 : Bool} (h : 0 < k := by omega) : or_w gd gb ga gb_ gc k (gl, go, od, m1) = or_w gd gb ga gb_ gc k (gl, go, od, m2) := by
  cases k with
  | zero => omega
  | succ k => rfl
set_option maxHeartbeats 4000000 in
set_option maxRecDepth 100000 in
theorem lp3_Model_order {p : Program} {l : Launch} {e : Env} {s : State} {m : MethodId} {args : Array Value} {below : List Frame} {meth : Method} {c : Code} {Q : State → Prop} {A : Nat → Prop} {dC : Nat → ClassId} {dI : Nat → Nat → Nat} {cB cI cL cZ cC cO : ClassId} {qm q_gateLevel q_gateDff q_gateA q_gateB q_gateOfBit q_gateOrder : Nat}{f0 f1 f2 f3 f4 f5 f6 f7 f8 f9 f10 f11 f12 f13 f14 f15 f16 f17 f18 f19 f20 f21 f22 f23 f24 f25 f26 f27 f28 f29 f30 f31 f32 f33 f34 f35 f36 f37 f38 f39 f40 f41 f42 f43 f44 f45 f46 f47 f48 f49 f50 f51 f52 f53 f54 f58 f64 f65 f66 f67 f68 f69 f70 : Value} {gc nn : Nat} {gd : Nat → Bool} {ga gb_ gb : Nat → Nat} {F : OR} (hgc : gc ≤ 300) (hg : ∀ i, i < gc → (ga i < 8002 ∧ gb_ i < 8002) ∧ gb (ga i - 2) ≤ gc ∧ gb (gb_ i - 2) ≤ gc) (hgb : ∀ i, gb i ≤ 300) (hx : p.tables.exec = Jvm.exec) (hb : c.code = b_Model_order) (hml : c.maxLocals = 6) (hown : s.vm.findClass R_Model = some m.cls) (hts : ∀ w ∈ tb, w.before args s = true) (hA : ∀ q, s.heap.size ≤ q → A q) (hF : stF A s) (hK : va_K (dC, dI) cl [(cB, .byte), (cI, .int), (cL, .long), (cZ, .boolean), (cC, .char), (cO, .object "java/lang/Object")] s)
    (kx : ∀ (gl : Nat → Option Nat) (go : Nat → Nat) (od : Nat) (mr : Bool) (H : Heap) (locs : List Loc) (ls : Array Slot), (gl, go, od, mr) = F → od = cnt gl gc → (∀ i z, i < gc → gl i = some z → z ≤ od) → va_P (dC, dI) cl [(qm, .inr (13, [f0, f1, f2, f3, f4, f5, f6, f7, f8, f9, f10, f11, f12, f13, f14, f15, f16, f17, f18, f19, f20, f21, f22, f23, f24, f25, f26, f27, f28, f29, f30, f31, f32, f33, f34, f35, f36, f37, f38, f39, f40, f41, f42, f43, f44, f45, f46, f47, f48, f49, f50, f51, f52, f53, f54, .ref q_gateOfBit, .int (nI gc), .ref q_gateDff, f58, .ref q_gateLevel, .ref q_gateOrder, .int (nI od), .ref q_gateA, .ref q_gateB, f64, f65, f66, f67, f68, f69, f70])), (q_gateLevel, .inl (cI, 300, .inl (oF gl))), (q_gateDff, .inl (cZ, 300, .inl (bF gd))), (q_gateA, .inl (cI, 300, .inl (zF ga))), (q_gateB, .inl (cI, 300, .inl (zF gb_))), (q_gateOfBit, .inl (cI, 8000, .inl (nF gb))), (q_gateOrder, .inl (cI, 300, .inl (nF go)))] H → va_D A [(qm, .inr (13, [f0, f1, f2, f3, f4, f5, f6, f7, f8, f9, f10, f11, f12, f13, f14, f15, f16, f17, f18, f19, f20, f21, f22, f23, f24, f25, f26, f27, f28, f29, f30, f31, f32, f33, f34, f35, f36, f37, f38, f39, f40, f41, f42, f43, f44, f45, f46, f47, f48, f49, f50, f51, f52, f53, f54, .ref q_gateOfBit, .int (nI gc), .ref q_gateDff, f58, .ref q_gateLevel, .ref q_gateOrder, .int (nI od), .ref q_gateA, .ref q_gateB, f64, f65, f66, f67, f68, f69, f70])), (q_gateLevel, .inl (cI, 300, .inl (oF gl))), (q_gateDff, .inl (cZ, 300, .inl (bF gd))), (q_gateA, .inl (cI, 300, .inl (zF ga))), (q_gateB, .inl (cI, 300, .inl (zF gb_))), (q_gateOfBit, .inl (cI, 8000, .inl (nF gb))), (q_gateOrder, .inl (cI, 300, .inl (nF go)))] → va_S A s.heap H locs → lv_has ls 6 [(1, .int (nI nn)), (0, .ref qm)] → W p l e (headSpec w_Model_order { frames := 1, cells := 0, slots := 0, locals := 30 }).room s m args below meth c H locs 0 0 Q (F0 m 179 ls [])) :
    ∀ (k : Nat) (gl : Nat → Option Nat) (go : Nat → Nat) (od : Nat) (H : Heap) (locs : List Loc) (ls : Array Slot), gc < od + k → od = cnt gl gc → (∀ i z, i < gc → gl i = some z → z ≤ od) → or_w gd gb ga gb_ gc k (gl, go, od, true) = F → va_P (dC, dI) cl [(qm, .inr (13, [f0, f1, f2, f3, f4, f5, f6, f7, f8, f9, f10, f11, f12, f13, f14, f15, f16, f17, f18, f19, f20, f21, f22, f23, f24, f25, f26, f27, f28, f29, f30, f31, f32, f33, f34, f35, f36, f37, f38, f39, f40, f41, f42, f43, f44, f45, f46, f47, f48, f49, f50, f51, f52, f53, f54, .ref q_gateOfBit, .int (nI gc), .ref q_gateDff, f58, .ref q_gateLevel, .ref q_gateOrder, .int (nI od), .ref q_gateA, .ref q_gateB, f64, f65, f66, f67, f68, f69, f70])), (q_gateLevel, .inl (cI, 300, .inl (oF gl))), (q_gateDff, .inl (cZ, 300, .inl (bF gd))), (q_gateA, .inl (cI, 300, .inl (zF ga))), (q_gateB, .inl (cI, 300, .inl (zF gb_))), (q_gateOfBit, .inl (cI, 8000, .inl (nF gb))), (q_gateOrder, .inl (cI, 300, .inl (nF go)))] H → va_D A [(qm, .inr (13, [f0, f1, f2, f3, f4, f5, f6, f7, f8, f9, f10, f11, f12, f13, f14, f15, f16, f17, f18, f19, f20, f21, f22, f23, f24, f25, f26, f27, f28, f29, f30, f31, f32, f33, f34, f35, f36, f37, f38, f39, f40, f41, f42, f43, f44, f45, f46, f47, f48, f49, f50, f51, f52, f53, f54, .ref q_gateOfBit, .int (nI gc), .ref q_gateDff, f58, .ref q_gateLevel, .ref q_gateOrder, .int (nI od), .ref q_gateA, .ref q_gateB, f64, f65, f66, f67, f68, f69, f70])), (q_gateLevel, .inl (cI, 300, .inl (oF gl))), (q_gateDff, .inl (cZ, 300, .inl (bF gd))), (q_gateA, .inl (cI, 300, .inl (zF ga))), (q_gateB, .inl (cI, 300, .inl (zF gb_))), (q_gateOfBit, .inl (cI, 8000, .inl (nF gb))), (q_gateOrder, .inl (cI, 300, .inl (nF go)))] → va_S A s.heap H locs → lv_has ls 6 [(2, .int (nI 1)), (1, .int (nI nn)), (0, .ref qm)] → W p l e (headSpec w_Model_order { frames := 1, cells := 0, slots := 0, locals := 30 }).room s m args below meth c H locs 0 0 Q (F0 m 49 ls []) := by
  intro k
  induction k with
  | zero =>
    intro gl go od H locs ls hk hcn hlv hr hP hD hS hl
    exfalso; have := cnt_le gl gc; omega
  | succ k ih =>
    intro gl go od H locs ls hk hcn hlv hr hP hD hS hl
    refine lv_iload_n hx hb d_Model_order_49 rfl (lv_at hl 0 rfl) ?_
    refine nv_if_eq (tgt := 179) hx hb (by omega) d_Model_order_50 (by decide) (fun c_1 => ?_) (fun c_1 => ?_)
    · exact absurd c_1 (by decide)
    · refine lv_iconst (v := nI 0) hx hb d_Model_order_53 (by decide) ?_
      refine lv_istore_n (lv' := [(2, .int (nI 0)), (1, .int (nI nn)), (0, .ref qm)]) hx hb d_Model_order_54 rfl hl (by decide) rfl (fun ls hl => ?_)
      refine lv_iconst (v := nI 0) hx hb d_Model_order_55 (by decide) ?_
      refine lv_istore_n (lv' := [(3, .int (nI 0)), (2, .int (nI 0)), (1, .int (nI nn)), (0, .ref qm)]) hx hb d_Model_order_56 rfl hl (by decide) rfl (fun ls hl => ?_)
      refine lp2_Model_order (F := or_r gd gb ga gb_ gc 0 (gl, go, od, false)) hgc hg hgb hx hb hml hown hts hA hF hK (fun gl1 go1 od1 mr1 H locs ls hF1 hcn1 hlv1 hP hD hS hl => ?_) 301 0 gl go od false _ _ ls (by omega) (by omega) hcn hlv rfl hP hD hS (lv_sub hl [0, 1, 2, 3] rfl)
      have ho := or_r_od (gd := gd) (gb := gb) (ga := ga) (gb_ := gb_) gc 0 (gl, go, od, false)
      rw [← hF1] at ho
      have ho1 : od ≤ od1 := ho.1
      have hc1 := cnt_le gl1 gc
      refine lv_goto (tgt := 49) hx hb d_Model_order_176 (by decide) ?_
      cases hm : mr1 with
      | true =>
        subst hm
        have ho2 : od < od1 := ho.2 rfl rfl
        exact ih gl1 go1 od1 H locs ls (by omega) hcn1 hlv1 (by rw [← hr]; show _ = (if (or_r gd gb ga gb_ gc 0 (gl, go, od, false)).2.2.2 = true then or_w gd gb ga gb_ gc k (or_r gd gb ga gb_ gc 0 (gl, go, od, false)) else _); rw [← hF1, if_pos rfl]) hP hD hS (lv_sub hl [0, 1, 2] rfl)
      | false =>
        subst hm
        refine lv_iload_n hx hb d_Model_order_49 rfl (lv_at hl 0 rfl) ?_
        refine nv_bif_eq (tgt := 179) hx hb d_Model_order_50 (by decide) (fun _ => ?_) (fun q => absurd q (by decide))
        exact kx gl1 go1 od1 false H locs ls (by rw [← hr]; show _ = (if (or_r gd gb ga gb_ gc 0 (gl, go, od, false)).2.2.2 = true then _ else or_r gd gb ga gb_ gc 0 (gl, go, od, false)); rw [← hF1, if_neg (by intro q9; cases q9)]) hcn1 hlv1 hP hD hS (lv_sub hl [1, 2] rfl)
theorem or_0_none {gd : Nat → Bool} : ∀ k i S, (∀ j, j < i → S.1 j = none) → ∀ j, j < i + k → (or_0 gd k i S).1 j = none
  | 0, _, _, h => h
  | k + 1, i, S, h => by
    intro j hj
    refine or_0_none k (i + 1) _ (fun q hq => ?_) j (by omega)
    show va_up S.1 i none q = none
    unfold va_up; split
    · rfl
    · exact h q (by omega)
theorem or_0_le {gd : Nat → Bool} : ∀ k i S, (or_0 gd k i S).2 ≤ S.2 + k
  | 0, _, _ => Nat.le_refl _
  | k + 1, i, S => by
    have := or_0_le (gd := gd) k (i + 1) (va_up S.1 i none, if gd i = true then S.2 else S.2 + 1)
    have e : or_0 gd (k + 1) i S = or_0 gd k (i + 1) (va_up S.1 i none, if gd i = true then S.2 else S.2 + 1) := rfl
    rw [e]
    have : (if gd i = true then S.2 else S.2 + 1) ≤ S.2 + 1 := by split <;> omega
    simp only at *
    omega
theorem or_0_out {gd : Nat → Bool} : ∀ k i S j, i + k ≤ j → (or_0 gd k i S).1 j = S.1 j
  | 0, _, _, _, _ => rfl
  | k + 1, i, S, j, h => by
    have e : or_0 gd (k + 1) i S = or_0 gd k (i + 1) (va_up S.1 i none, if gd i = true then S.2 else S.2 + 1) := rfl
    rw [e, or_0_out k (i + 1) _ j (by omega)]
    show va_up S.1 i none j = _
    rw [va_up_ne _ _ (by omega)]
set_option maxHeartbeats 4000000 in
set_option maxRecDepth 100000 in
/-- order() -/
theorem c_Model_order (l : Launch) (dC : Nat → ClassId) (dI : Nat → Nat → Nat) (cB cI cL cZ cC cO : ClassId) {qm q_gateLevel q_gateDff q_gateA q_gateB q_gateOfBit q_gateOrder : Nat}{f0 f1 f2 f3 f4 f5 f6 f7 f8 f9 f10 f11 f12 f13 f14 f15 f16 f17 f18 f19 f20 f21 f22 f23 f24 f25 f26 f27 f28 f29 f30 f31 f32 f33 f34 f35 f36 f37 f38 f39 f40 f41 f42 f43 f44 f45 f46 f47 f48 f49 f50 f51 f52 f53 f54 f58 f64 f65 f66 f67 f68 f69 f70 : Value} (gc od : Nat) (gd : Nat → Bool) (gl : Nat → Option Nat) (ga gb_ gb go : Nat → Nat) (sz : Nat) (hgc : gc ≤ 300) (hg : ∀ i, i < gc → (ga i < 8002 ∧ gb_ i < 8002) ∧ gb (ga i - 2) ≤ gc ∧ gb (gb_ i - 2) ≤ gc) (hgb : ∀ i, gb i ≤ 300) : Met l y_Model_order w_Model_order ({ frames := 1, cells := 0, slots := 0, locals := 30 }) (va_Pc [.ref qm] (wB (dC, dI) cl [(cB, .byte), (cI, .int), (cL, .long), (cZ, .boolean), (cC, .char), (cO, .object "java/lang/Object")] sz [(qm, .inr (13, [f0, f1, f2, f3, f4, f5, f6, f7, f8, f9, f10, f11, f12, f13, f14, f15, f16, f17, f18, f19, f20, f21, f22, f23, f24, f25, f26, f27, f28, f29, f30, f31, f32, f33, f34, f35, f36, f37, f38, f39, f40, f41, f42, f43, f44, f45, f46, f47, f48, f49, f50, f51, f52, f53, f54, .ref q_gateOfBit, .int (nI gc), .ref q_gateDff, f58, .ref q_gateLevel, .ref q_gateOrder, .int (nI od), .ref q_gateA, .ref q_gateB, f64, f65, f66, f67, f68, f69, f70])), (q_gateLevel, .inl (cI, 300, .inl (oF gl))), (q_gateDff, .inl (cZ, 300, .inl (bF gd))), (q_gateA, .inl (cI, 300, .inl (zF ga))), (q_gateB, .inl (cI, 300, .inl (zF gb_))), (q_gateOfBit, .inl (cI, 8000, .inl (nF gb))), (q_gateOrder, .inl (cI, 300, .inl (nF go)))])) (va_Qi (fun (r : Int32) (u : OR) => r = bI (decide ((or_w gd gb ga gb_ gc 302 ((or_0 gd gc 0 (gl, 0)).1, go, 0, true)).2.2.1 = (or_0 gd gc 0 (gl, 0)).2)) ∧ u = or_w gd gb ga gb_ gc 302 ((or_0 gd gc 0 (gl, 0)).1, go, 0, true)) (fun u t => wA (dC, dI) cl [(cB, .byte), (cI, .int), (cL, .long), (cZ, .boolean), (cC, .char), (cO, .object "java/lang/Object")] (va_A [(qm, .inr (13, [f0, f1, f2, f3, f4, f5, f6, f7, f8, f9, f10, f11, f12, f13, f14, f15, f16, f17, f18, f19, f20, f21, f22, f23, f24, f25, f26, f27, f28, f29, f30, f31, f32, f33, f34, f35, f36, f37, f38, f39, f40, f41, f42, f43, f44, f45, f46, f47, f48, f49, f50, f51, f52, f53, f54, .ref q_gateOfBit, .int (nI gc), .ref q_gateDff, f58, .ref q_gateLevel, .ref q_gateOrder, .int (nI od), .ref q_gateA, .ref q_gateB, f64, f65, f66, f67, f68, f69, f70])), (q_gateLevel, .inl (cI, 300, .inl (oF gl))), (q_gateDff, .inl (cZ, 300, .inl (bF gd))), (q_gateA, .inl (cI, 300, .inl (zF ga))), (q_gateB, .inl (cI, 300, .inl (zF gb_))), (q_gateOfBit, .inl (cI, 8000, .inl (nF gb))), (q_gateOrder, .inl (cI, 300, .inl (nF go)))] sz) [(qm, .inr (13, [f0, f1, f2, f3, f4, f5, f6, f7, f8, f9, f10, f11, f12, f13, f14, f15, f16, f17, f18, f19, f20, f21, f22, f23, f24, f25, f26, f27, f28, f29, f30, f31, f32, f33, f34, f35, f36, f37, f38, f39, f40, f41, f42, f43, f44, f45, f46, f47, f48, f49, f50, f51, f52, f53, f54, .ref q_gateOfBit, .int (nI gc), .ref q_gateDff, f58, .ref q_gateLevel, .ref q_gateOrder, .int (nI u.2.2.1), .ref q_gateA, .ref q_gateB, f64, f65, f66, f67, f68, f69, f70])), (q_gateLevel, .inl (cI, 300, .inl (oF u.1))), (q_gateDff, .inl (cZ, 300, .inl (bF gd))), (q_gateA, .inl (cI, 300, .inl (zF ga))), (q_gateB, .inl (cI, 300, .inl (zF gb_))), (q_gateOfBit, .inl (cI, 8000, .inl (nF gb))), (q_gateOrder, .inl (cI, 300, .inl (nF u.2.1)))] t) (va_A [(qm, .inr (13, [f0, f1, f2, f3, f4, f5, f6, f7, f8, f9, f10, f11, f12, f13, f14, f15, f16, f17, f18, f19, f20, f21, f22, f23, f24, f25, f26, f27, f28, f29, f30, f31, f32, f33, f34, f35, f36, f37, f38, f39, f40, f41, f42, f43, f44, f45, f46, f47, f48, f49, f50, f51, f52, f53, f54, .ref q_gateOfBit, .int (nI gc), .ref q_gateDff, f58, .ref q_gateLevel, .ref q_gateOrder, .int (nI od), .ref q_gateA, .ref q_gateB, f64, f65, f66, f67, f68, f69, f70])), (q_gateLevel, .inl (cI, 300, .inl (oF gl))), (q_gateDff, .inl (cZ, 300, .inl (bF gd))), (q_gateA, .inl (cI, 300, .inl (zF ga))), (q_gateB, .inl (cI, 300, .inl (zF gb_))), (q_gateOfBit, .inl (cI, 8000, .inl (nF gb))), (q_gateOrder, .inl (cI, 300, .inl (nF go)))] sz)) 0 0 (va_A [(qm, .inr (13, [f0, f1, f2, f3, f4, f5, f6, f7, f8, f9, f10, f11, f12, f13, f14, f15, f16, f17, f18, f19, f20, f21, f22, f23, f24, f25, f26, f27, f28, f29, f30, f31, f32, f33, f34, f35, f36, f37, f38, f39, f40, f41, f42, f43, f44, f45, f46, f47, f48, f49, f50, f51, f52, f53, f54, .ref q_gateOfBit, .int (nI gc), .ref q_gateDff, f58, .ref q_gateLevel, .ref q_gateOrder, .int (nI od), .ref q_gateA, .ref q_gateB, f64, f65, f66, f67, f68, f69, f70])), (q_gateLevel, .inl (cI, 300, .inl (oF gl))), (q_gateDff, .inl (cZ, 300, .inl (bF gd))), (q_gateA, .inl (cI, 300, .inl (zF ga))), (q_gateB, .inl (cI, 300, .inl (zF gb_))), (q_gateOfBit, .inl (cI, 8000, .inl (nF gb))), (q_gateOrder, .inl (cI, 300, .inl (nF go)))] sz) := by
  refine Met.ofW (cc := b_Model_order) (maxL := 6) (ret := (some ClassFile.FieldType.boolean)) (by decide) rfl ?_
  intro p e s m args below meth c s₁ B hml hv
  obtain ⟨rfl, hsz, hP, hK, hD0, hF⟩ := hv
  have hx := B.exec
  have hb := B.bytes
  have hr := B.returns
  have hts := atoms_spec (ws := w_Model_order) B.pre
  have hts : ∀ w ∈ tb, w.before _ s = true := fun w h => hts w (List.mem_cons_of_mem _ h)
  have hown : s.vm.findClass R_Model = some m.cls := findClass_of_methodNamed B.named
  have hlocks := B.notSynchronized
  subst hsz
  have hD := hD0.self (sz := s.heap.size)
  generalize hAe : va_A [(qm, .inr (13, [f0, f1, f2, f3, f4, f5, f6, f7, f8, f9, f10, f11, f12, f13, f14, f15, f16, f17, f18, f19, f20, f21, f22, f23, f24, f25, f26, f27, f28, f29, f30, f31, f32, f33, f34, f35, f36, f37, f38, f39, f40, f41, f42, f43, f44, f45, f46, f47, f48, f49, f50, f51, f52, f53, f54, .ref q_gateOfBit, .int (nI gc), .ref q_gateDff, f58, .ref q_gateLevel, .ref q_gateOrder, .int (nI od), .ref q_gateA, .ref q_gateB, f64, f65, f66, f67, f68, f69, f70])), (q_gateLevel, .inl (cI, 300, .inl (oF gl))), (q_gateDff, .inl (cZ, 300, .inl (bF gd))), (q_gateA, .inl (cI, 300, .inl (zF ga))), (q_gateB, .inl (cI, 300, .inl (zF gb_))), (q_gateOfBit, .inl (cI, 8000, .inl (nF gb))), (q_gateOrder, .inl (cI, 300, .inl (nF go)))] s.heap.size = A at hD hF ⊢
  have hA : ∀ q : Nat, s.heap.size ≤ q → A q := fun q h => by rw [← hAe]; exact Or.inr h
  have hS : va_S A s.heap s.heap [] := va_S.rf
  have hP : va_P (dC, dI) cl [(qm, .inr (13, [f0, f1, f2, f3, f4, f5, f6, f7, f8, f9, f10, f11, f12, f13, f14, f15, f16, f17, f18, f19, f20, f21, f22, f23, f24, f25, f26, f27, f28, f29, f30, f31, f32, f33, f34, f35, f36, f37, f38, f39, f40, f41, f42, f43, f44, f45, f46, f47, f48, f49, f50, f51, f52, f53, f54, .ref q_gateOfBit, .int (nI gc), .ref q_gateDff, f58, .ref q_gateLevel, .ref q_gateOrder, .int (nI od), .ref q_gateA, .ref q_gateB, f64, f65, f66, f67, f68, f69, f70])), (q_gateLevel, .inl (cI, 300, .inl (oF gl))), (q_gateDff, .inl (cZ, 300, .inl (bF gd))), (q_gateA, .inl (cI, 300, .inl (zF ga))), (q_gateB, .inl (cI, 300, .inl (zF gb_))), (q_gateOfBit, .inl (cI, 8000, .inl (nF gb))), (q_gateOrder, .inl (cI, 300, .inl (nF go)))] s.heap := hP
  have hl := lv_entry ([.ref qm]) (n := 6) (Nat.le_of_ble_eq_true rfl)
  rw [lg_entry_eq]
  generalize (lg_sl ([.ref qm]) ++ List.replicate (6 - (lg_sl ([.ref qm])).length) Slot.unset).toArray = ls at hl ⊢
  have hl : lv_has ls 6 [(0, .ref qm)] := hl
  refine lv_aload_n hx hb d_Model_order_0 rfl (lv_at hl 0 rfl) ?_
  refine lv_iconst (v := nI 0) hx hb d_Model_order_1 (by decide) ?_
  refine va_put (D := (dC, dI)) (ci := 13) (v := .int (nI 0)) (ty := .int) (C := R_Model) (T := F_Model) (N := 71) hx hb hts i_Model t_Model t_Model_ok n_Model hown hK hP hD hS 0 rfl rfl 61 (by decide) (hts _ k_935) (fun _ h9 => h9) rfl (by decide +kernel) rfl rfl (Nat.le_of_ble_eq_true rfl) d_Model_order_2 (fun H locs hP hD hS => ?_)
  have hP : va_P (dC, dI) cl [(qm, .inr (13, [f0, f1, f2, f3, f4, f5, f6, f7, f8, f9, f10, f11, f12, f13, f14, f15, f16, f17, f18, f19, f20, f21, f22, f23, f24, f25, f26, f27, f28, f29, f30, f31, f32, f33, f34, f35, f36, f37, f38, f39, f40, f41, f42, f43, f44, f45, f46, f47, f48, f49, f50, f51, f52, f53, f54, .ref q_gateOfBit, .int (nI gc), .ref q_gateDff, f58, .ref q_gateLevel, .ref q_gateOrder, .int (nI 0), .ref q_gateA, .ref q_gateB, f64, f65, f66, f67, f68, f69, f70])), (q_gateLevel, .inl (cI, 300, .inl (oF gl))), (q_gateDff, .inl (cZ, 300, .inl (bF gd))), (q_gateA, .inl (cI, 300, .inl (zF ga))), (q_gateB, .inl (cI, 300, .inl (zF gb_))), (q_gateOfBit, .inl (cI, 8000, .inl (nF gb))), (q_gateOrder, .inl (cI, 300, .inl (nF go)))] H := hP
  have hD : va_D A [(qm, .inr (13, [f0, f1, f2, f3, f4, f5, f6, f7, f8, f9, f10, f11, f12, f13, f14, f15, f16, f17, f18, f19, f20, f21, f22, f23, f24, f25, f26, f27, f28, f29, f30, f31, f32, f33, f34, f35, f36, f37, f38, f39, f40, f41, f42, f43, f44, f45, f46, f47, f48, f49, f50, f51, f52, f53, f54, .ref q_gateOfBit, .int (nI gc), .ref q_gateDff, f58, .ref q_gateLevel, .ref q_gateOrder, .int (nI 0), .ref q_gateA, .ref q_gateB, f64, f65, f66, f67, f68, f69, f70])), (q_gateLevel, .inl (cI, 300, .inl (oF gl))), (q_gateDff, .inl (cZ, 300, .inl (bF gd))), (q_gateA, .inl (cI, 300, .inl (zF ga))), (q_gateB, .inl (cI, 300, .inl (zF gb_))), (q_gateOfBit, .inl (cI, 8000, .inl (nF gb))), (q_gateOrder, .inl (cI, 300, .inl (nF go)))] := hD
  refine lv_iconst (v := nI 0) hx hb d_Model_order_5 (by decide) ?_
  refine lv_istore_n (lv' := [(1, .int (nI 0)), (0, .ref qm)]) hx hb d_Model_order_6 rfl hl (by decide) rfl (fun ls hl => ?_)
  refine lv_iconst (v := nI 0) hx hb d_Model_order_7 (by decide) ?_
  refine lv_istore_n (lv' := [(2, .int (nI 0)), (1, .int (nI 0)), (0, .ref qm)]) hx hb d_Model_order_8 rfl hl (by decide) rfl (fun ls hl => ?_)
  refine lp1_Model_order (nn := 0) (FG := (or_0 gd gc 0 (gl, 0)).1) (FN := (or_0 gd gc 0 (gl, 0)).2) hgc hx hb hml hown hts hA hF hK (fun H locs ls hP hD hS hl => ?_) 301 0 gl 0 _ _ ls (by omega) (by omega) rfl hP hD hS (lv_sub hl [0, 1, 2] rfl)
  refine lv_iconst (v := nI 1) hx hb d_Model_order_47 (by decide) ?_
  refine lv_istore_n (lv' := [(2, .int (nI 1)), (1, .int (nI ((or_0 gd gc 0 (gl, 0)).2))), (0, .ref qm)]) hx hb d_Model_order_48 rfl hl (by decide) rfl (fun ls hl => ?_)
  have hn0 : ∀ j, j < gc → (or_0 gd gc 0 (gl, 0)).1 j = none := fun j hj => or_0_none gc 0 (gl, 0) (fun j9 h9 => absurd h9 (Nat.not_lt_zero _)) j (by omega)
  have hle := or_0_le (gd := gd) gc 0 (gl, 0)
  refine lp3_Model_order (F := or_w gd gb ga gb_ gc 302 ((or_0 gd gc 0 (gl, 0)).1, go, 0, true)) hgc hg hgb hx hb hml hown hts hA hF hK (fun gl1 go1 od1 mr1 H locs ls hZ hcn1 hlv1 hP hD hS hl => ?_) 302 (or_0 gd gc 0 (gl, 0)).1 go 0 _ _ ls (by omega) (cnt_0 gc _ hn0).symm (fun i9 z9 hi9 h9 => by rw [hn0 i9 hi9] at h9; cases h9) rfl hP hD hS (lv_sub hl [0, 1, 2] rfl)
  have hc1 := cnt_le gl1 gc
  have hPz := hP
  have hDz := hD
  have hle2 : (or_0 gd gc 0 (gl, 0)).2 ≤ 300 := by have h9 : (or_0 gd gc 0 (gl, 0)).2 ≤ 0 + gc := hle; omega
  refine lv_aload_n hx hb d_Model_order_179 rfl (lv_at hl 1 rfl) ?_
  refine va_get (D := (dC, dI)) (ci := 13) (v := .int (nI od1)) (C := R_Model) (T := F_Model) (N := 71) hx hb hts i_Model hown hK hP 0 rfl rfl 61 (by decide) (hts _ k_935) (fun _ h9 => h9) rfl d_Model_order_180 ?_
  refine lv_iload_n hx hb d_Model_order_183 rfl (lv_at hl 0 rfl) ?_
  refine nv_icmp_ne (tgt := 191) hx hb (by omega) (by omega) d_Model_order_184 (by decide) (fun c_1 => ?_) (fun c_1 => ?_)
  · refine lv_iconst (v := nI 0) hx hb d_Model_order_191 (by decide) ?_
    exact wr_z (x := false) hx hb hr hlocks (or_w gd gb ga gb_ gc 302 ((or_0 gd gc 0 (gl, 0)).1, go, 0, true)) ⟨by rw [← hZ]; show bI false = bI (decide (od1 = (or_0 gd gc 0 (gl, 0)).2)); rw [decide_eq_false c_1], rfl⟩ hK (by rw [← hZ]; exact hPz) (by rw [← hZ]; exact hDz) hS d_Model_order_192
  · refine lv_iconst (v := nI 1) hx hb d_Model_order_187 (by decide) ?_
    refine lv_goto (tgt := 192) hx hb d_Model_order_188 (by decide) ?_
    exact wr_z (x := true) hx hb hr hlocks (or_w gd gb ga gb_ gc 302 ((or_0 gd gc 0 (gl, 0)).1, go, 0, true)) ⟨by rw [← hZ]; show bI true = bI (decide (od1 = (or_0 gd gc 0 (gl, 0)).2)); rw [decide_eq_true c_1], rfl⟩ hK (by rw [← hZ]; exact hPz) (by rw [← hZ]; exact hDz) hS d_Model_order_192
