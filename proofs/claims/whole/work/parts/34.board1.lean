def bd_nand (fi si : Nat → Nat) (va : Nat → Bool) (x : Nat) : Bool := !(va (fi x) && va (si x))
def bd_set (od fi si : Nat → Nat) (fg : Nat) : Nat → Nat → (Nat → Bool) × Nat → (Nat → Bool) × Nat
  | 0, _, S => S
  | k + 1, i, S => bd_set od fi si fg k (i + 1) (va_up S.1 (fg + od i) (bd_nand fi si S.1 (od i)), S.2 + (if bd_nand fi si S.1 (od i) = true then 1 else 0))
theorem bd_set_u (od fi si : Nat → Nat) (fg n i : Nat) (S : (Nat → Bool) × Nat) : bd_set od fi si fg (n - i) i S = if i < n then bd_set od fi si fg (n - (i + 1)) (i + 1) (va_up S.1 (fg + od i) (bd_nand fi si S.1 (od i)), S.2 + (if bd_nand fi si S.1 (od i) = true then 1 else 0)) else S := by
  by_cases h : i < n
  · rw [if_pos h, show n - i = (n - (i + 1)) + 1 by omega]; rfl
  · rw [if_neg h, show n - i = 0 by omega]; rfl
theorem d_Board_settle_0 : decode b_Board_settle 0 = .ok (.aload_n 0, 1) := by decide +kernel
theorem d_Board_settle_1 : decode b_Board_settle 1 = .ok (.iconst 0, 1) := by decide +kernel
theorem d_Board_settle_2 : decode b_Board_settle 2 = .ok (.putfield 71, 3) := by decide +kernel
theorem d_Board_settle_5 : decode b_Board_settle 5 = .ok (.iconst 0, 1) := by decide +kernel
theorem d_Board_settle_6 : decode b_Board_settle 6 = .ok (.istore_n 1, 1) := by decide +kernel
theorem d_Board_settle_7 : decode b_Board_settle 7 = .ok (.iload_n 1, 1) := by decide +kernel
theorem d_Board_settle_8 : decode b_Board_settle 8 = .ok (.aload_n 0, 1) := by decide +kernel
theorem d_Board_settle_9 : decode b_Board_settle 9 = .ok (.getfield 59, 3) := by decide +kernel
theorem d_Board_settle_12 : decode b_Board_settle 12 = .ok (.if_icmp .ge 80, 3) := by decide +kernel
theorem d_Board_settle_15 : decode b_Board_settle 15 = .ok (.aload_n 0, 1) := by decide +kernel
theorem d_Board_settle_16 : decode b_Board_settle 16 = .ok (.getfield 56, 3) := by decide +kernel
theorem d_Board_settle_19 : decode b_Board_settle 19 = .ok (.iload_n 1, 1) := by decide +kernel
theorem d_Board_settle_20 : decode b_Board_settle 20 = .ok (.iaload, 1) := by decide +kernel
theorem d_Board_settle_21 : decode b_Board_settle 21 = .ok (.istore_n 2, 1) := by decide +kernel
theorem d_Board_settle_22 : decode b_Board_settle 22 = .ok (.aload_n 0, 1) := by decide +kernel
theorem d_Board_settle_23 : decode b_Board_settle 23 = .ok (.getfield 47, 3) := by decide +kernel
theorem d_Board_settle_26 : decode b_Board_settle 26 = .ok (.aload_n 0, 1) := by decide +kernel
theorem d_Board_settle_27 : decode b_Board_settle 27 = .ok (.getfield 32, 3) := by decide +kernel
theorem d_Board_settle_30 : decode b_Board_settle 30 = .ok (.iload_n 2, 1) := by decide +kernel
theorem d_Board_settle_31 : decode b_Board_settle 31 = .ok (.iaload, 1) := by decide +kernel
theorem d_Board_settle_32 : decode b_Board_settle 32 = .ok (.baload, 1) := by decide +kernel
theorem d_Board_settle_33 : decode b_Board_settle 33 = .ok (.ifCond .eq 17, 3) := by decide +kernel
theorem d_Board_settle_36 : decode b_Board_settle 36 = .ok (.aload_n 0, 1) := by decide +kernel
theorem d_Board_settle_37 : decode b_Board_settle 37 = .ok (.getfield 47, 3) := by decide +kernel
theorem d_Board_settle_40 : decode b_Board_settle 40 = .ok (.aload_n 0, 1) := by decide +kernel
theorem d_Board_settle_41 : decode b_Board_settle 41 = .ok (.getfield 35, 3) := by decide +kernel
theorem d_Board_settle_44 : decode b_Board_settle 44 = .ok (.iload_n 2, 1) := by decide +kernel
theorem d_Board_settle_45 : decode b_Board_settle 45 = .ok (.iaload, 1) := by decide +kernel
theorem d_Board_settle_46 : decode b_Board_settle 46 = .ok (.baload, 1) := by decide +kernel
theorem d_Board_settle_47 : decode b_Board_settle 47 = .ok (.ifCond .ne 7, 3) := by decide +kernel
theorem d_Board_settle_50 : decode b_Board_settle 50 = .ok (.iconst 1, 1) := by decide +kernel
theorem d_Board_settle_51 : decode b_Board_settle 51 = .ok (.goto 4, 3) := by decide +kernel
theorem d_Board_settle_54 : decode b_Board_settle 54 = .ok (.iconst 0, 1) := by decide +kernel
theorem d_Board_settle_55 : decode b_Board_settle 55 = .ok (.istore_n 3, 1) := by decide +kernel
theorem d_Board_settle_56 : decode b_Board_settle 56 = .ok (.aload_n 0, 1) := by decide +kernel
theorem d_Board_settle_57 : decode b_Board_settle 57 = .ok (.getfield 47, 3) := by decide +kernel
theorem d_Board_settle_60 : decode b_Board_settle 60 = .ok (.aload_n 0, 1) := by decide +kernel
theorem d_Board_settle_61 : decode b_Board_settle 61 = .ok (.getfield 44, 3) := by decide +kernel
theorem d_Board_settle_64 : decode b_Board_settle 64 = .ok (.iload_n 2, 1) := by decide +kernel
theorem d_Board_settle_65 : decode b_Board_settle 65 = .ok (.iadd, 1) := by decide +kernel
theorem d_Board_settle_66 : decode b_Board_settle 66 = .ok (.iload_n 3, 1) := by decide +kernel
theorem d_Board_settle_67 : decode b_Board_settle 67 = .ok (.bastore, 1) := by decide +kernel
theorem d_Board_settle_68 : decode b_Board_settle 68 = .ok (.aload_n 0, 1) := by decide +kernel
theorem d_Board_settle_69 : decode b_Board_settle 69 = .ok (.dup, 1) := by decide +kernel
theorem d_Board_settle_70 : decode b_Board_settle 70 = .ok (.getfield 71, 3) := by decide +kernel
theorem d_Board_settle_73 : decode b_Board_settle 73 = .ok (.iload_n 3, 1) := by decide +kernel
theorem d_Board_settle_74 : decode b_Board_settle 74 = .ok (.ifCond .eq 7, 3) := by decide +kernel
theorem d_Board_settle_77 : decode b_Board_settle 77 = .ok (.iconst 1, 1) := by decide +kernel
theorem d_Board_settle_78 : decode b_Board_settle 78 = .ok (.goto 4, 3) := by decide +kernel
theorem d_Board_settle_81 : decode b_Board_settle 81 = .ok (.iconst 0, 1) := by decide +kernel
theorem d_Board_settle_82 : decode b_Board_settle 82 = .ok (.iadd, 1) := by decide +kernel
theorem d_Board_settle_83 : decode b_Board_settle 83 = .ok (.putfield 71, 3) := by decide +kernel
theorem d_Board_settle_86 : decode b_Board_settle 86 = .ok (.iinc 1 1, 3) := by decide +kernel
theorem d_Board_settle_89 : decode b_Board_settle 89 = .ok (.goto (-82), 3) := by decide +kernel
theorem d_Board_settle_92 : decode b_Board_settle 92 = .ok (.return_, 1) := by decide +kernel
set_option maxHeartbeats 4000000 in
set_option maxRecDepth 100000 in
theorem lp_Board_settle {p : Program} {l : Launch} {e : Env} {s : State} {m : MethodId} {args : Array Value} {below : List Frame} {meth : Method} {c : Code} {Q : State → Prop} {A : Nat → Prop} {dC : Nat → ClassId} {dI : Nat → Nat → Nat} {cB cI cL cZ cC cO : ClassId} {qd a_firstIn a_secondIn a_value a_order : Nat}{f0 f1 f2 f3 f4 f7 f8 f11 f12 f15 f16 f17 : Value} {fi si od : Nat → Nat} {fg no : Nat} {F : (Nat → Bool) × Nat} (hno : no ≤ 300) (hod : ∀ i, od i < 300) (hfi : ∀ x, fi x < 430) (hsi : ∀ x, si x < 430) (hfg : fg ≤ 130) (hx : p.tables.exec = Jvm.exec) (hb : c.code = b_Board_settle) (hml : c.maxLocals = 4) (hown : s.vm.findClass R_Board = some m.cls) (hts : ∀ w ∈ tb, w.before args s = true) (hA : ∀ q, s.heap.size ≤ q → A q) (hF : stF A s) (hK : va_K (dC, dI) cl [(cB, .byte), (cI, .int), (cL, .long), (cZ, .boolean), (cC, .char), (cO, .object "java/lang/Object")] s)
    (kx : ∀  (H : Heap) (locs : List Loc) (ls : Array Slot), va_P (dC, dI) cl [(qd, .inr (9, [f0, f1, f2, f3, f4, .ref a_firstIn, .ref a_secondIn, f7, f8, .int (nI fg), .ref a_value, f11, f12, .ref a_order, .int (nI no), f15, f16, f17, .int (nI F.2)])), (a_firstIn, .inl (cI, 300, .inl (nF fi))), (a_secondIn, .inl (cI, 300, .inl (nF si))), (a_value, .inl (cZ, 430, .inl (bF F.1))), (a_order, .inl (cI, 300, .inl (nF od)))] H → va_D A [(qd, .inr (9, [f0, f1, f2, f3, f4, .ref a_firstIn, .ref a_secondIn, f7, f8, .int (nI fg), .ref a_value, f11, f12, .ref a_order, .int (nI no), f15, f16, f17, .int (nI F.2)])), (a_firstIn, .inl (cI, 300, .inl (nF fi))), (a_secondIn, .inl (cI, 300, .inl (nF si))), (a_value, .inl (cZ, 430, .inl (bF F.1))), (a_order, .inl (cI, 300, .inl (nF od)))] → va_S A s.heap H locs → lv_has ls 4 [(0, .ref qd)] → W p l e (headSpec w_Board_settle { frames := 0, cells := 0, slots := 0, locals := 0 }).room s m args below meth c H locs 0 0 Q (F0 m 92 ls [])) :
    ∀ (k : Nat) (i : Nat) (va : Nat → Bool) (on : Nat) (H : Heap) (locs : List Loc) (ls : Array Slot), no < i + k → i ≤ no → bd_set od fi si fg (no - i) i (va, on) = F → va_P (dC, dI) cl [(qd, .inr (9, [f0, f1, f2, f3, f4, .ref a_firstIn, .ref a_secondIn, f7, f8, .int (nI fg), .ref a_value, f11, f12, .ref a_order, .int (nI no), f15, f16, f17, .int (nI on)])), (a_firstIn, .inl (cI, 300, .inl (nF fi))), (a_secondIn, .inl (cI, 300, .inl (nF si))), (a_value, .inl (cZ, 430, .inl (bF va))), (a_order, .inl (cI, 300, .inl (nF od)))] H → va_D A [(qd, .inr (9, [f0, f1, f2, f3, f4, .ref a_firstIn, .ref a_secondIn, f7, f8, .int (nI fg), .ref a_value, f11, f12, .ref a_order, .int (nI no), f15, f16, f17, .int (nI on)])), (a_firstIn, .inl (cI, 300, .inl (nF fi))), (a_secondIn, .inl (cI, 300, .inl (nF si))), (a_value, .inl (cZ, 430, .inl (bF va))), (a_order, .inl (cI, 300, .inl (nF od)))] → va_S A s.heap H locs → lv_has ls 4 [(1, .int (nI i)), (0, .ref qd)] → W p l e (headSpec w_Board_settle { frames := 0, cells := 0, slots := 0, locals := 0 }).room s m args below meth c H locs 0 0 Q (F0 m 7 ls []) := by
  intro k
  induction k with
  | zero =>
    intro i va on H locs ls hk hi hr hP hD hS hl
    exfalso; omega
  | succ k ih =>
    intro i va on H locs ls hk hi hr hP hD hS hl
    refine lv_iload_n hx hb d_Board_settle_7 rfl (lv_at hl 0 rfl) ?_
    refine lv_aload_n hx hb d_Board_settle_8 rfl (lv_at hl 1 rfl) ?_
    refine va_get (D := (dC, dI)) (ci := 9) (v := .int (nI no)) (C := R_Board) (T := F_Board) (N := 19) hx hb hts i_Board hown hK hP 0 rfl rfl 14 (by decide) (hts _ k_387) (fun _ h9 => h9) rfl d_Board_settle_9 ?_
    refine nv_icmp_ge (tgt := 92) hx hb (by omega) (by omega) d_Board_settle_12 (by decide) (fun c_1 => ?_) (fun c_1 => ?_)
    · have hq : (va, on) = F := by rw [← hr, bd_set_u, if_neg (by omega)]
      subst hq
      exact kx H locs ls hP hD hS (lv_sub hl [1] rfl)
    · refine lv_aload_n hx hb d_Board_settle_15 rfl (lv_at hl 1 rfl) ?_
      refine va_get (D := (dC, dI)) (ci := 9) (v := .ref a_order) (C := R_Board) (T := F_Board) (N := 19) hx hb hts i_Board hown hK hP 0 rfl rfl 13 (by decide) (hts _ k_386) (fun _ h9 => h9) rfl d_Board_settle_16 ?_
      refine lv_iload_n hx hb d_Board_settle_19 rfl (lv_at hl 0 rfl) ?_
      refine nv_iald hx hb hK hP 4 1 rfl rfl (by omega) (by decide) d_Board_settle_20 ?_
      refine lv_istore_n (lv' := [(2, .int (nI (od i))), (1, .int (nI i)), (0, .ref qd)]) hx hb d_Board_settle_21 rfl hl (by decide) rfl (fun ls hl => ?_)
      refine lv_aload_n hx hb d_Board_settle_22 rfl (lv_at hl 2 rfl) ?_
      refine va_get (D := (dC, dI)) (ci := 9) (v := .ref a_value) (C := R_Board) (T := F_Board) (N := 19) hx hb hts i_Board hown hK hP 0 rfl rfl 10 (by decide) (hts _ k_383) (fun _ h9 => h9) rfl d_Board_settle_23 ?_
      refine lv_aload_n hx hb d_Board_settle_26 rfl (lv_at hl 2 rfl) ?_
      refine va_get (D := (dC, dI)) (ci := 9) (v := .ref a_firstIn) (C := R_Board) (T := F_Board) (N := 19) hx hb hts i_Board hown hK hP 0 rfl rfl 5 (by decide) (hts _ k_378) (fun _ h9 => h9) rfl d_Board_settle_27 ?_
      refine lv_iload_n hx hb d_Board_settle_30 rfl (lv_at hl 0 rfl) ?_
      refine nv_iald hx hb hK hP 1 1 rfl rfl (hod _) (by decide) d_Board_settle_31 ?_
      refine nv_zald hx hb hK hP 3 3 rfl rfl (hfi _) (by decide) d_Board_settle_32 ?_
      refine nv_bif_eq (tgt := 50) hx hb d_Board_settle_33 (by decide) (fun c_2 => ?_) (fun c_2 => ?_)
      · refine lv_iconst (v := nI 1) hx hb d_Board_settle_50 (by decide) ?_
        refine lv_goto (tgt := 55) hx hb d_Board_settle_51 (by decide) ?_
        refine lv_istore_n (lv' := [(3, .int (nI 1)), (2, .int (nI (od i))), (1, .int (nI i)), (0, .ref qd)]) hx hb d_Board_settle_55 rfl hl (by decide) rfl (fun ls hl => ?_)
        refine lv_aload_n hx hb d_Board_settle_56 rfl (lv_at hl 3 rfl) ?_
        refine va_get (D := (dC, dI)) (ci := 9) (v := .ref a_value) (C := R_Board) (T := F_Board) (N := 19) hx hb hts i_Board hown hK hP 0 rfl rfl 10 (by decide) (hts _ k_383) (fun _ h9 => h9) rfl d_Board_settle_57 ?_
        refine lv_aload_n hx hb d_Board_settle_60 rfl (lv_at hl 3 rfl) ?_
        refine va_get (D := (dC, dI)) (ci := 9) (v := .int (nI fg)) (C := R_Board) (T := F_Board) (N := 19) hx hb hts i_Board hown hK hP 0 rfl rfl 9 (by decide) (hts _ k_382) (fun _ h9 => h9) rfl d_Board_settle_61 ?_
        refine lv_iload_n hx hb d_Board_settle_64 rfl (lv_at hl 1 rfl) ?_
        refine nv_iadd hx hb d_Board_settle_65 ?_
        refine lv_iload_n hx hb d_Board_settle_66 rfl (lv_at hl 0 rfl) ?_
        refine nv_zastB (x := true) hx hb hK hP hD hS 3 3 rfl rfl (by have := hod i; omega) (by decide) d_Board_settle_67 (fun H locs hP hD hS => ?_)
        have hP : va_P (dC, dI) cl [(qd, .inr (9, [f0, f1, f2, f3, f4, .ref a_firstIn, .ref a_secondIn, f7, f8, .int (nI fg), .ref a_value, f11, f12, .ref a_order, .int (nI no), f15, f16, f17, .int (nI on)])), (a_firstIn, .inl (cI, 300, .inl (nF fi))), (a_secondIn, .inl (cI, 300, .inl (nF si))), (a_value, .inl (cZ, 430, .inl (bF (va_up va (fg + (od i)) true)))), (a_order, .inl (cI, 300, .inl (nF od)))] H := hP
        have hD : va_D A [(qd, .inr (9, [f0, f1, f2, f3, f4, .ref a_firstIn, .ref a_secondIn, f7, f8, .int (nI fg), .ref a_value, f11, f12, .ref a_order, .int (nI no), f15, f16, f17, .int (nI on)])), (a_firstIn, .inl (cI, 300, .inl (nF fi))), (a_secondIn, .inl (cI, 300, .inl (nF si))), (a_value, .inl (cZ, 430, .inl (bF (va_up va (fg + (od i)) true)))), (a_order, .inl (cI, 300, .inl (nF od)))] := hD
        refine lv_aload_n hx hb d_Board_settle_68 rfl (lv_at hl 3 rfl) ?_
        refine lv_dup hx hb d_Board_settle_69 rfl ?_
        refine va_get (D := (dC, dI)) (ci := 9) (v := .int (nI on)) (C := R_Board) (T := F_Board) (N := 19) hx hb hts i_Board hown hK hP 0 rfl rfl 18 (by decide) (hts _ k_391) (fun _ h9 => h9) rfl d_Board_settle_70 ?_
        refine lv_iload_n hx hb d_Board_settle_73 rfl (lv_at hl 0 rfl) ?_
        refine nv_if_eq (tgt := 81) hx hb (by omega) d_Board_settle_74 (by decide) (fun c_3 => ?_) (fun c_3 => ?_)
        · exact absurd c_3 (by decide)
        · refine lv_iconst (v := nI 1) hx hb d_Board_settle_77 (by decide) ?_
          refine lv_goto (tgt := 82) hx hb d_Board_settle_78 (by decide) ?_
          refine nv_iadd hx hb d_Board_settle_82 ?_
          refine va_put (D := (dC, dI)) (ci := 9) (v := .int (nI (on + 1))) (ty := .int) (C := R_Board) (T := F_Board) (N := 19) hx hb hts i_Board t_Board t_Board_ok n_Board hown hK hP hD hS 0 rfl rfl 18 (by decide) (hts _ k_391) (fun _ h9 => h9) rfl (by decide +kernel) rfl rfl (Nat.le_of_ble_eq_true rfl) d_Board_settle_83 (fun H locs hP hD hS => ?_)
          have hP : va_P (dC, dI) cl [(qd, .inr (9, [f0, f1, f2, f3, f4, .ref a_firstIn, .ref a_secondIn, f7, f8, .int (nI fg), .ref a_value, f11, f12, .ref a_order, .int (nI no), f15, f16, f17, .int (nI (on + 1))])), (a_firstIn, .inl (cI, 300, .inl (nF fi))), (a_secondIn, .inl (cI, 300, .inl (nF si))), (a_value, .inl (cZ, 430, .inl (bF (va_up va (fg + (od i)) true)))), (a_order, .inl (cI, 300, .inl (nF od)))] H := hP
          have hD : va_D A [(qd, .inr (9, [f0, f1, f2, f3, f4, .ref a_firstIn, .ref a_secondIn, f7, f8, .int (nI fg), .ref a_value, f11, f12, .ref a_order, .int (nI no), f15, f16, f17, .int (nI (on + 1))])), (a_firstIn, .inl (cI, 300, .inl (nF fi))), (a_secondIn, .inl (cI, 300, .inl (nF si))), (a_value, .inl (cZ, 430, .inl (bF (va_up va (fg + (od i)) true)))), (a_order, .inl (cI, 300, .inl (nF od)))] := hD
          refine lv_iinc (v := nI (i + 1)) (lv' := [(1, .int (nI (i + 1))), (3, .int (nI 1)), (2, .int (nI (od i))), (0, .ref qd)]) hx hb d_Board_settle_86 hl (k := 2) rfl (nI_1 _) (by decide) rfl (fun ls hl => ?_)
          refine lv_goto (tgt := 7) hx hb d_Board_settle_89 (by decide) ?_
          have hg : bd_nand fi si va (od i) = true := by simp [bd_nand, c_2]
          exact ih (i + 1) _ _ H locs ls (by omega) (by omega) (by rw [← hr, bd_set_u od fi si fg no i, if_pos (by omega), hg]; rfl) hP hD hS (lv_sub hl [0, 3] rfl)
      · refine lv_aload_n hx hb d_Board_settle_36 rfl (lv_at hl 2 rfl) ?_
        refine va_get (D := (dC, dI)) (ci := 9) (v := .ref a_value) (C := R_Board) (T := F_Board) (N := 19) hx hb hts i_Board hown hK hP 0 rfl rfl 10 (by decide) (hts _ k_383) (fun _ h9 => h9) rfl d_Board_settle_37 ?_
        refine lv_aload_n hx hb d_Board_settle_40 rfl (lv_at hl 2 rfl) ?_
        refine va_get (D := (dC, dI)) (ci := 9) (v := .ref a_secondIn) (C := R_Board) (T := F_Board) (N := 19) hx hb hts i_Board hown hK hP 0 rfl rfl 6 (by decide) (hts _ k_379) (fun _ h9 => h9) rfl d_Board_settle_41 ?_
        refine lv_iload_n hx hb d_Board_settle_44 rfl (lv_at hl 0 rfl) ?_
        refine nv_iald hx hb hK hP 2 1 rfl rfl (hod _) (by decide) d_Board_settle_45 ?_
        refine nv_zald hx hb hK hP 3 3 rfl rfl (hsi _) (by decide) d_Board_settle_46 ?_
        refine nv_bif_ne (tgt := 54) hx hb d_Board_settle_47 (by decide) (fun c_4 => ?_) (fun c_4 => ?_)
        · refine lv_iconst (v := nI 0) hx hb d_Board_settle_54 (by decide) ?_
          refine lv_istore_n (lv' := [(3, .int (nI 0)), (2, .int (nI (od i))), (1, .int (nI i)), (0, .ref qd)]) hx hb d_Board_settle_55 rfl hl (by decide) rfl (fun ls hl => ?_)
          refine lv_aload_n hx hb d_Board_settle_56 rfl (lv_at hl 3 rfl) ?_
          refine va_get (D := (dC, dI)) (ci := 9) (v := .ref a_value) (C := R_Board) (T := F_Board) (N := 19) hx hb hts i_Board hown hK hP 0 rfl rfl 10 (by decide) (hts _ k_383) (fun _ h9 => h9) rfl d_Board_settle_57 ?_
          refine lv_aload_n hx hb d_Board_settle_60 rfl (lv_at hl 3 rfl) ?_
          refine va_get (D := (dC, dI)) (ci := 9) (v := .int (nI fg)) (C := R_Board) (T := F_Board) (N := 19) hx hb hts i_Board hown hK hP 0 rfl rfl 9 (by decide) (hts _ k_382) (fun _ h9 => h9) rfl d_Board_settle_61 ?_
          refine lv_iload_n hx hb d_Board_settle_64 rfl (lv_at hl 1 rfl) ?_
          refine nv_iadd hx hb d_Board_settle_65 ?_
          refine lv_iload_n hx hb d_Board_settle_66 rfl (lv_at hl 0 rfl) ?_
          refine nv_zastB (x := false) hx hb hK hP hD hS 3 3 rfl rfl (by have := hod i; omega) (by decide) d_Board_settle_67 (fun H locs hP hD hS => ?_)
          have hP : va_P (dC, dI) cl [(qd, .inr (9, [f0, f1, f2, f3, f4, .ref a_firstIn, .ref a_secondIn, f7, f8, .int (nI fg), .ref a_value, f11, f12, .ref a_order, .int (nI no), f15, f16, f17, .int (nI on)])), (a_firstIn, .inl (cI, 300, .inl (nF fi))), (a_secondIn, .inl (cI, 300, .inl (nF si))), (a_value, .inl (cZ, 430, .inl (bF (va_up va (fg + (od i)) false)))), (a_order, .inl (cI, 300, .inl (nF od)))] H := hP
          have hD : va_D A [(qd, .inr (9, [f0, f1, f2, f3, f4, .ref a_firstIn, .ref a_secondIn, f7, f8, .int (nI fg), .ref a_value, f11, f12, .ref a_order, .int (nI no), f15, f16, f17, .int (nI on)])), (a_firstIn, .inl (cI, 300, .inl (nF fi))), (a_secondIn, .inl (cI, 300, .inl (nF si))), (a_value, .inl (cZ, 430, .inl (bF (va_up va (fg + (od i)) false)))), (a_order, .inl (cI, 300, .inl (nF od)))] := hD
          refine lv_aload_n hx hb d_Board_settle_68 rfl (lv_at hl 3 rfl) ?_
          refine lv_dup hx hb d_Board_settle_69 rfl ?_
          refine va_get (D := (dC, dI)) (ci := 9) (v := .int (nI on)) (C := R_Board) (T := F_Board) (N := 19) hx hb hts i_Board hown hK hP 0 rfl rfl 18 (by decide) (hts _ k_391) (fun _ h9 => h9) rfl d_Board_settle_70 ?_
          refine lv_iload_n hx hb d_Board_settle_73 rfl (lv_at hl 0 rfl) ?_
          refine nv_if_eq (tgt := 81) hx hb (by omega) d_Board_settle_74 (by decide) (fun c_5 => ?_) (fun c_5 => ?_)
          · refine lv_iconst (v := nI 0) hx hb d_Board_settle_81 (by decide) ?_
            refine nv_iadd hx hb d_Board_settle_82 ?_
            refine va_put (D := (dC, dI)) (ci := 9) (v := .int (nI (on + 0))) (ty := .int) (C := R_Board) (T := F_Board) (N := 19) hx hb hts i_Board t_Board t_Board_ok n_Board hown hK hP hD hS 0 rfl rfl 18 (by decide) (hts _ k_391) (fun _ h9 => h9) rfl (by decide +kernel) rfl rfl (Nat.le_of_ble_eq_true rfl) d_Board_settle_83 (fun H locs hP hD hS => ?_)
            have hP : va_P (dC, dI) cl [(qd, .inr (9, [f0, f1, f2, f3, f4, .ref a_firstIn, .ref a_secondIn, f7, f8, .int (nI fg), .ref a_value, f11, f12, .ref a_order, .int (nI no), f15, f16, f17, .int (nI (on + 0))])), (a_firstIn, .inl (cI, 300, .inl (nF fi))), (a_secondIn, .inl (cI, 300, .inl (nF si))), (a_value, .inl (cZ, 430, .inl (bF (va_up va (fg + (od i)) false)))), (a_order, .inl (cI, 300, .inl (nF od)))] H := hP
            have hD : va_D A [(qd, .inr (9, [f0, f1, f2, f3, f4, .ref a_firstIn, .ref a_secondIn, f7, f8, .int (nI fg), .ref a_value, f11, f12, .ref a_order, .int (nI no), f15, f16, f17, .int (nI (on + 0))])), (a_firstIn, .inl (cI, 300, .inl (nF fi))), (a_secondIn, .inl (cI, 300, .inl (nF si))), (a_value, .inl (cZ, 430, .inl (bF (va_up va (fg + (od i)) false)))), (a_order, .inl (cI, 300, .inl (nF od)))] := hD
            refine lv_iinc (v := nI (i + 1)) (lv' := [(1, .int (nI (i + 1))), (3, .int (nI 0)), (2, .int (nI (od i))), (0, .ref qd)]) hx hb d_Board_settle_86 hl (k := 2) rfl (nI_1 _) (by decide) rfl (fun ls hl => ?_)
            refine lv_goto (tgt := 7) hx hb d_Board_settle_89 (by decide) ?_
            have hg : bd_nand fi si va (od i) = false := by simp [bd_nand, c_2, c_4]
            exact ih (i + 1) _ _ H locs ls (by omega) (by omega) (by rw [← hr, bd_set_u od fi si fg no i, if_pos (by omega), hg]; rfl) hP hD hS (lv_sub hl [0, 3] rfl)
          · exact absurd c_5 (by decide)
        · refine lv_iconst (v := nI 1) hx hb d_Board_settle_50 (by decide) ?_
          refine lv_goto (tgt := 55) hx hb d_Board_settle_51 (by decide) ?_
          refine lv_istore_n (lv' := [(3, .int (nI 1)), (2, .int (nI (od i))), (1, .int (nI i)), (0, .ref qd)]) hx hb d_Board_settle_55 rfl hl (by decide) rfl (fun ls hl => ?_)
          refine lv_aload_n hx hb d_Board_settle_56 rfl (lv_at hl 3 rfl) ?_
          refine va_get (D := (dC, dI)) (ci := 9) (v := .ref a_value) (C := R_Board) (T := F_Board) (N := 19) hx hb hts i_Board hown hK hP 0 rfl rfl 10 (by decide) (hts _ k_383) (fun _ h9 => h9) rfl d_Board_settle_57 ?_
          refine lv_aload_n hx hb d_Board_settle_60 rfl (lv_at hl 3 rfl) ?_
          refine va_get (D := (dC, dI)) (ci := 9) (v := .int (nI fg)) (C := R_Board) (T := F_Board) (N := 19) hx hb hts i_Board hown hK hP 0 rfl rfl 9 (by decide) (hts _ k_382) (fun _ h9 => h9) rfl d_Board_settle_61 ?_
          refine lv_iload_n hx hb d_Board_settle_64 rfl (lv_at hl 1 rfl) ?_
          refine nv_iadd hx hb d_Board_settle_65 ?_
          refine lv_iload_n hx hb d_Board_settle_66 rfl (lv_at hl 0 rfl) ?_
          refine nv_zastB (x := true) hx hb hK hP hD hS 3 3 rfl rfl (by have := hod i; omega) (by decide) d_Board_settle_67 (fun H locs hP hD hS => ?_)
          have hP : va_P (dC, dI) cl [(qd, .inr (9, [f0, f1, f2, f3, f4, .ref a_firstIn, .ref a_secondIn, f7, f8, .int (nI fg), .ref a_value, f11, f12, .ref a_order, .int (nI no), f15, f16, f17, .int (nI on)])), (a_firstIn, .inl (cI, 300, .inl (nF fi))), (a_secondIn, .inl (cI, 300, .inl (nF si))), (a_value, .inl (cZ, 430, .inl (bF (va_up va (fg + (od i)) true)))), (a_order, .inl (cI, 300, .inl (nF od)))] H := hP
          have hD : va_D A [(qd, .inr (9, [f0, f1, f2, f3, f4, .ref a_firstIn, .ref a_secondIn, f7, f8, .int (nI fg), .ref a_value, f11, f12, .ref a_order, .int (nI no), f15, f16, f17, .int (nI on)])), (a_firstIn, .inl (cI, 300, .inl (nF fi))), (a_secondIn, .inl (cI, 300, .inl (nF si))), (a_value, .inl (cZ, 430, .inl (bF (va_up va (fg + (od i)) true)))), (a_order, .inl (cI, 300, .inl (nF od)))] := hD
          refine lv_aload_n hx hb d_Board_settle_68 rfl (lv_at hl 3 rfl) ?_
          refine lv_dup hx hb d_Board_settle_69 rfl ?_
          refine va_get (D := (dC, dI)) (ci := 9) (v := .int (nI on)) (C := R_Board) (T := F_Board) (N := 19) hx hb hts i_Board hown hK hP 0 rfl rfl 18 (by decide) (hts _ k_391) (fun _ h9 => h9) rfl d_Board_settle_70 ?_
          refine lv_iload_n hx hb d_Board_settle_73 rfl (lv_at hl 0 rfl) ?_
          refine nv_if_eq (tgt := 81) hx hb (by omega) d_Board_settle_74 (by decide) (fun c_6 => ?_) (fun c_6 => ?_)
          · exact absurd c_6 (by decide)
          · refine lv_iconst (v := nI 1) hx hb d_Board_settle_77 (by decide) ?_
            refine lv_goto (tgt := 82) hx hb d_Board_settle_78 (by decide) ?_
            refine nv_iadd hx hb d_Board_settle_82 ?_
            refine va_put (D := (dC, dI)) (ci := 9) (v := .int (nI (on + 1))) (ty := .int) (C := R_Board) (T := F_Board) (N := 19) hx hb hts i_Board t_Board t_Board_ok n_Board hown hK hP hD hS 0 rfl rfl 18 (by decide) (hts _ k_391) (fun _ h9 => h9) rfl (by decide +kernel) rfl rfl (Nat.le_of_ble_eq_true rfl) d_Board_settle_83 (fun H locs hP hD hS => ?_)
            have hP : va_P (dC, dI) cl [(qd, .inr (9, [f0, f1, f2, f3, f4, .ref a_firstIn, .ref a_secondIn, f7, f8, .int (nI fg), .ref a_value, f11, f12, .ref a_order, .int (nI no), f15, f16, f17, .int (nI (on + 1))])), (a_firstIn, .inl (cI, 300, .inl (nF fi))), (a_secondIn, .inl (cI, 300, .inl (nF si))), (a_value, .inl (cZ, 430, .inl (bF (va_up va (fg + (od i)) true)))), (a_order, .inl (cI, 300, .inl (nF od)))] H := hP
            have hD : va_D A [(qd, .inr (9, [f0, f1, f2, f3, f4, .ref a_firstIn, .ref a_secondIn, f7, f8, .int (nI fg), .ref a_value, f11, f12, .ref a_order, .int (nI no), f15, f16, f17, .int (nI (on + 1))])), (a_firstIn, .inl (cI, 300, .inl (nF fi))), (a_secondIn, .inl (cI, 300, .inl (nF si))), (a_value, .inl (cZ, 430, .inl (bF (va_up va (fg + (od i)) true)))), (a_order, .inl (cI, 300, .inl (nF od)))] := hD
            refine lv_iinc (v := nI (i + 1)) (lv' := [(1, .int (nI (i + 1))), (3, .int (nI 1)), (2, .int (nI (od i))), (0, .ref qd)]) hx hb d_Board_settle_86 hl (k := 2) rfl (nI_1 _) (by decide) rfl (fun ls hl => ?_)
            refine lv_goto (tgt := 7) hx hb d_Board_settle_89 (by decide) ?_
            have hg : bd_nand fi si va (od i) = true := by simp [bd_nand, c_2, c_4]
            exact ih (i + 1) _ _ H locs ls (by omega) (by omega) (by rw [← hr, bd_set_u od fi si fg no i, if_pos (by omega), hg]; rfl) hP hD hS (lv_sub hl [0, 3] rfl)
set_option maxHeartbeats 4000000 in
set_option maxRecDepth 100000 in
/-- settle() -/
theorem c_Board_settle (l : Launch) (dC : Nat → ClassId) (dI : Nat → Nat → Nat) (cB cI cL cZ cC cO : ClassId) {qd a_firstIn a_secondIn a_value a_order : Nat}{f0 f1 f2 f3 f4 f7 f8 f11 f12 f15 f16 f17 : Value} {f18 : Value} (fi si od : Nat → Nat) (va : Nat → Bool) (fg no : Nat) (sz : Nat) (hno : no ≤ 300) (hod : ∀ i, od i < 300) (hfi : ∀ x, fi x < 430) (hsi : ∀ x, si x < 430) (hfg : fg ≤ 130) : Met l y_Board_settle w_Board_settle ({ frames := 0, cells := 0, slots := 0, locals := 0 }) (va_Pc [.ref qd] (wB (dC, dI) cl [(cB, .byte), (cI, .int), (cL, .long), (cZ, .boolean), (cC, .char), (cO, .object "java/lang/Object")] sz [(qd, .inr (9, [f0, f1, f2, f3, f4, .ref a_firstIn, .ref a_secondIn, f7, f8, .int (nI fg), .ref a_value, f11, f12, .ref a_order, .int (nI no), f15, f16, f17, f18])), (a_firstIn, .inl (cI, 300, .inl (nF fi))), (a_secondIn, .inl (cI, 300, .inl (nF si))), (a_value, .inl (cZ, 430, .inl (bF va))), (a_order, .inl (cI, 300, .inl (nF od)))])) (va_Qv (fun (u : (Nat → Bool) × Nat) => u = bd_set od fi si fg no 0 (va, 0)) (fun u t => wA (dC, dI) cl [(cB, .byte), (cI, .int), (cL, .long), (cZ, .boolean), (cC, .char), (cO, .object "java/lang/Object")] (va_A [(qd, .inr (9, [f0, f1, f2, f3, f4, .ref a_firstIn, .ref a_secondIn, f7, f8, .int (nI fg), .ref a_value, f11, f12, .ref a_order, .int (nI no), f15, f16, f17, f18])), (a_firstIn, .inl (cI, 300, .inl (nF fi))), (a_secondIn, .inl (cI, 300, .inl (nF si))), (a_value, .inl (cZ, 430, .inl (bF va))), (a_order, .inl (cI, 300, .inl (nF od)))] sz) [(qd, .inr (9, [f0, f1, f2, f3, f4, .ref a_firstIn, .ref a_secondIn, f7, f8, .int (nI fg), .ref a_value, f11, f12, .ref a_order, .int (nI no), f15, f16, f17, .int (nI u.2)])), (a_firstIn, .inl (cI, 300, .inl (nF fi))), (a_secondIn, .inl (cI, 300, .inl (nF si))), (a_value, .inl (cZ, 430, .inl (bF u.1))), (a_order, .inl (cI, 300, .inl (nF od)))] t) (va_A [(qd, .inr (9, [f0, f1, f2, f3, f4, .ref a_firstIn, .ref a_secondIn, f7, f8, .int (nI fg), .ref a_value, f11, f12, .ref a_order, .int (nI no), f15, f16, f17, f18])), (a_firstIn, .inl (cI, 300, .inl (nF fi))), (a_secondIn, .inl (cI, 300, .inl (nF si))), (a_value, .inl (cZ, 430, .inl (bF va))), (a_order, .inl (cI, 300, .inl (nF od)))] sz)) 0 0 (va_A [(qd, .inr (9, [f0, f1, f2, f3, f4, .ref a_firstIn, .ref a_secondIn, f7, f8, .int (nI fg), .ref a_value, f11, f12, .ref a_order, .int (nI no), f15, f16, f17, f18])), (a_firstIn, .inl (cI, 300, .inl (nF fi))), (a_secondIn, .inl (cI, 300, .inl (nF si))), (a_value, .inl (cZ, 430, .inl (bF va))), (a_order, .inl (cI, 300, .inl (nF od)))] sz) := by
  refine Met.ofW (cc := b_Board_settle) (maxL := 4) (ret := none) (by decide) rfl ?_
  intro p e s m args below meth c s₁ B hml hv
  obtain ⟨rfl, hsz, hP, hK, hD0, hF⟩ := hv
  have hx := B.exec
  have hb := B.bytes
  have hr := B.returns
  have hts := atoms_spec (ws := w_Board_settle) B.pre
  have hts : ∀ w ∈ tb, w.before _ s = true := fun w h => hts w (List.mem_cons_of_mem _ h)
  have hown : s.vm.findClass R_Board = some m.cls := findClass_of_methodNamed B.named
  have hlocks := B.notSynchronized
  subst hsz
  have hD := hD0.self (sz := s.heap.size)
  generalize hAe : va_A [(qd, .inr (9, [f0, f1, f2, f3, f4, .ref a_firstIn, .ref a_secondIn, f7, f8, .int (nI fg), .ref a_value, f11, f12, .ref a_order, .int (nI no), f15, f16, f17, f18])), (a_firstIn, .inl (cI, 300, .inl (nF fi))), (a_secondIn, .inl (cI, 300, .inl (nF si))), (a_value, .inl (cZ, 430, .inl (bF va))), (a_order, .inl (cI, 300, .inl (nF od)))] s.heap.size = A at hD hF ⊢
  have hA : ∀ q : Nat, s.heap.size ≤ q → A q := fun q h => by rw [← hAe]; exact Or.inr h
  have hS : va_S A s.heap s.heap [] := va_S.rf
  have hP : va_P (dC, dI) cl [(qd, .inr (9, [f0, f1, f2, f3, f4, .ref a_firstIn, .ref a_secondIn, f7, f8, .int (nI fg), .ref a_value, f11, f12, .ref a_order, .int (nI no), f15, f16, f17, f18])), (a_firstIn, .inl (cI, 300, .inl (nF fi))), (a_secondIn, .inl (cI, 300, .inl (nF si))), (a_value, .inl (cZ, 430, .inl (bF va))), (a_order, .inl (cI, 300, .inl (nF od)))] s.heap := hP
  have hl := lv_entry ([.ref qd]) (n := 4) (Nat.le_of_ble_eq_true rfl)
  rw [lg_entry_eq]
  generalize (lg_sl ([.ref qd]) ++ List.replicate (4 - (lg_sl ([.ref qd])).length) Slot.unset).toArray = ls at hl ⊢
  have hl : lv_has ls 4 [(0, .ref qd)] := hl
  refine lv_aload_n hx hb d_Board_settle_0 rfl (lv_at hl 0 rfl) ?_
  refine lv_iconst (v := nI 0) hx hb d_Board_settle_1 (by decide) ?_
  refine va_put (D := (dC, dI)) (ci := 9) (v := .int (nI 0)) (ty := .int) (C := R_Board) (T := F_Board) (N := 19) hx hb hts i_Board t_Board t_Board_ok n_Board hown hK hP hD hS 0 rfl rfl 18 (by decide) (hts _ k_391) (fun _ h9 => h9) rfl (by decide +kernel) rfl rfl (Nat.le_of_ble_eq_true rfl) d_Board_settle_2 (fun H locs hP hD hS => ?_)
  have hP : va_P (dC, dI) cl [(qd, .inr (9, [f0, f1, f2, f3, f4, .ref a_firstIn, .ref a_secondIn, f7, f8, .int (nI fg), .ref a_value, f11, f12, .ref a_order, .int (nI no), f15, f16, f17, .int (nI 0)])), (a_firstIn, .inl (cI, 300, .inl (nF fi))), (a_secondIn, .inl (cI, 300, .inl (nF si))), (a_value, .inl (cZ, 430, .inl (bF va))), (a_order, .inl (cI, 300, .inl (nF od)))] H := hP
  have hD : va_D A [(qd, .inr (9, [f0, f1, f2, f3, f4, .ref a_firstIn, .ref a_secondIn, f7, f8, .int (nI fg), .ref a_value, f11, f12, .ref a_order, .int (nI no), f15, f16, f17, .int (nI 0)])), (a_firstIn, .inl (cI, 300, .inl (nF fi))), (a_secondIn, .inl (cI, 300, .inl (nF si))), (a_value, .inl (cZ, 430, .inl (bF va))), (a_order, .inl (cI, 300, .inl (nF od)))] := hD
  refine lv_iconst (v := nI 0) hx hb d_Board_settle_5 (by decide) ?_
  refine lv_istore_n (lv' := [(1, .int (nI 0)), (0, .ref qd)]) hx hb d_Board_settle_6 rfl hl (by decide) rfl (fun ls hl => ?_)
  refine lp_Board_settle (F := (bd_set od fi si fg no 0 (va, 0))) hno hod hfi hsi hfg hx hb hml hown hts hA hF hK (fun H locs ls hP hD hS hl => ?_) (no + 1) 0 va 0 _ _ ls (by omega) (by omega) rfl hP hD hS (lv_sub hl [0, 1] rfl)
  exact wr_v hx hb hr hlocks (bd_set od fi si fg no 0 (va, 0)) rfl hK hP hD hS d_Board_settle_92
theorem d_Board_clear_0 : decode b_Board_clear 0 = .ok (.aload_n 0, 1) := by decide +kernel
theorem d_Board_clear_1 : decode b_Board_clear 1 = .ok (.aconst_null, 1) := by decide +kernel
theorem d_Board_clear_2 : decode b_Board_clear 2 = .ok (.putfield 13, 3) := by decide +kernel
theorem d_Board_clear_5 : decode b_Board_clear 5 = .ok (.return_, 1) := by decide +kernel
set_option maxHeartbeats 4000000 in
set_option maxRecDepth 100000 in
/-- clear() -/
theorem c_Board_clear (l : Launch) (dC : Nat → ClassId) (dI : Nat → Nat → Nat) (cB cI cL cZ cC cO : ClassId) {qd : Nat}{f0 f1 f2 f3 f4 f5 f6 f7 f8 f9 f10 f11 f12 f13 f14 f15 f16 f17 f18 : Value} (sz : Nat)  : Met l y_Board_clear w_Board_clear ({ frames := 0, cells := 0, slots := 0, locals := 0 }) (va_Pc [.ref qd] (wB (dC, dI) cl [(cB, .byte), (cI, .int), (cL, .long), (cZ, .boolean), (cC, .char), (cO, .object "java/lang/Object")] sz [(qd, .inr (9, [f0, f1, f2, f3, f4, f5, f6, f7, f8, f9, f10, f11, f12, f13, f14, f15, f16, f17, f18]))])) (va_Qv (fun (u : Unit) => True) (fun _ t => wA (dC, dI) cl [(cB, .byte), (cI, .int), (cL, .long), (cZ, .boolean), (cC, .char), (cO, .object "java/lang/Object")] (va_A [(qd, .inr (9, [f0, f1, f2, f3, f4, f5, f6, f7, f8, f9, f10, f11, f12, f13, f14, f15, f16, f17, f18]))] sz) [(qd, .inr (9, [.null, f1, f2, f3, f4, f5, f6, f7, f8, f9, f10, f11, f12, f13, f14, f15, f16, f17, f18]))] t) (va_A [(qd, .inr (9, [f0, f1, f2, f3, f4, f5, f6, f7, f8, f9, f10, f11, f12, f13, f14, f15, f16, f17, f18]))] sz)) 0 0 (va_A [(qd, .inr (9, [f0, f1, f2, f3, f4, f5, f6, f7, f8, f9, f10, f11, f12, f13, f14, f15, f16, f17, f18]))] sz) := by
  refine Met.ofW (cc := b_Board_clear) (maxL := 1) (ret := none) (by decide) rfl ?_
  intro p e s m args below meth c s₁ B hml hv
  obtain ⟨rfl, hsz, hP, hK, hD0, hF⟩ := hv
  have hx := B.exec
  have hb := B.bytes
  have hr := B.returns
  have hts := atoms_spec (ws := w_Board_clear) B.pre
  have hts : ∀ w ∈ tb, w.before _ s = true := fun w h => hts w (List.mem_cons_of_mem _ h)
  have hown : s.vm.findClass R_Board = some m.cls := findClass_of_methodNamed B.named
  have hlocks := B.notSynchronized
  subst hsz
  have hD := hD0.self (sz := s.heap.size)
  generalize hAe : va_A [(qd, .inr (9, [f0, f1, f2, f3, f4, f5, f6, f7, f8, f9, f10, f11, f12, f13, f14, f15, f16, f17, f18]))] s.heap.size = A at hD hF ⊢
  have hA : ∀ q : Nat, s.heap.size ≤ q → A q := fun q h => by rw [← hAe]; exact Or.inr h
  have hS : va_S A s.heap s.heap [] := va_S.rf
  have hP : va_P (dC, dI) cl [(qd, .inr (9, [f0, f1, f2, f3, f4, f5, f6, f7, f8, f9, f10, f11, f12, f13, f14, f15, f16, f17, f18]))] s.heap := hP
  have hl := lv_entry ([.ref qd]) (n := 1) (Nat.le_of_ble_eq_true rfl)
  rw [lg_entry_eq]
  generalize (lg_sl ([.ref qd]) ++ List.replicate (1 - (lg_sl ([.ref qd])).length) Slot.unset).toArray = ls at hl ⊢
  have hl : lv_has ls 1 [(0, .ref qd)] := hl
  refine lv_aload_n hx hb d_Board_clear_0 rfl (lv_at hl 0 rfl) ?_
  refine lv_null hx hb d_Board_clear_1 ?_
  refine va_put (D := (dC, dI)) (ci := 9) (v := .null) (ty := .object "ChipDesk$Chip") (C := R_Board) (T := F_Board) (N := 19) hx hb hts i_Board t_Board t_Board_ok n_Board hown hK hP hD hS 0 rfl rfl 0 (by decide) (hts _ k_373) (fun _ h9 => h9) rfl (by decide +kernel) rfl rfl (Nat.le_of_ble_eq_true rfl) d_Board_clear_2 (fun H locs hP hD hS => ?_)
  have hP : va_P (dC, dI) cl [(qd, .inr (9, [.null, f1, f2, f3, f4, f5, f6, f7, f8, f9, f10, f11, f12, f13, f14, f15, f16, f17, f18]))] H := hP
  have hD : va_D A [(qd, .inr (9, [.null, f1, f2, f3, f4, f5, f6, f7, f8, f9, f10, f11, f12, f13, f14, f15, f16, f17, f18]))] := hD
  exact wr_v hx hb hr hlocks () trivial hK hP hD hS d_Board_clear_5
theorem d_Board_setFrom_0 : decode b_Board_setFrom 0 = .ok (.iload_n 1, 1) := by decide +kernel
theorem d_Board_setFrom_1 : decode b_Board_setFrom 1 = .ok (.ifCond .lt 18, 3) := by decide +kernel
theorem d_Board_setFrom_4 : decode b_Board_setFrom 4 = .ok (.iload_n 1, 1) := by decide +kernel
theorem d_Board_setFrom_5 : decode b_Board_setFrom 5 = .ok (.aload_n 0, 1) := by decide +kernel
theorem d_Board_setFrom_6 : decode b_Board_setFrom 6 = .ok (.getfield 25, 3) := by decide +kernel
theorem d_Board_setFrom_9 : decode b_Board_setFrom 9 = .ok (.if_icmp .ge 10, 3) := by decide +kernel
theorem d_Board_setFrom_12 : decode b_Board_setFrom 12 = .ok (.aload_n 0, 1) := by decide +kernel
theorem d_Board_setFrom_13 : decode b_Board_setFrom 13 = .ok (.getfield 21, 3) := by decide +kernel
theorem d_Board_setFrom_16 : decode b_Board_setFrom 16 = .ok (.iload_n 1, 1) := by decide +kernel
theorem d_Board_setFrom_17 : decode b_Board_setFrom 17 = .ok (.iload_n 2, 1) := by decide +kernel
theorem d_Board_setFrom_18 : decode b_Board_setFrom 18 = .ok (.iastore, 1) := by decide +kernel
theorem d_Board_setFrom_19 : decode b_Board_setFrom 19 = .ok (.return_, 1) := by decide +kernel
set_option maxHeartbeats 4000000 in
set_option maxRecDepth 100000 in
/-- setFrom(i, x) -/
theorem c_Board_setFrom (l : Launch) (dC : Nat → ClassId) (dI : Nat → Nat → Nat) (cB cI cL cZ cC cO : ClassId) {qd a_from : Nat}{f0 f1 f4 f5 f6 f7 f8 f9 f10 f11 f12 f13 f14 f15 f16 f17 f18 : Value} (fr : Nat → Int32) (nb i : Nat) (x : Int32) (sz : Nat) (hnb : nb ≤ 8000) (hi : i < 2 ^ 31) : Met l y_Board_setFrom w_Board_setFrom ({ frames := 0, cells := 0, slots := 0, locals := 0 }) (va_Pc [.ref qd, .int (nI i), .int x] (wB (dC, dI) cl [(cB, .byte), (cI, .int), (cL, .long), (cZ, .boolean), (cC, .char), (cO, .object "java/lang/Object")] sz [(qd, .inr (9, [f0, f1, .ref a_from, .int (nI nb), f4, f5, f6, f7, f8, f9, f10, f11, f12, f13, f14, f15, f16, f17, f18])), (a_from, .inl (cI, 8000, .inl fr))])) (va_Qv (fun (u : Nat → Int32) => u = if i < nb then upd fr i x else fr) (fun u t => wA (dC, dI) cl [(cB, .byte), (cI, .int), (cL, .long), (cZ, .boolean), (cC, .char), (cO, .object "java/lang/Object")] (va_A [(qd, .inr (9, [f0, f1, .ref a_from, .int (nI nb), f4, f5, f6, f7, f8, f9, f10, f11, f12, f13, f14, f15, f16, f17, f18])), (a_from, .inl (cI, 8000, .inl fr))] sz) [(qd, .inr (9, [f0, f1, .ref a_from, .int (nI nb), f4, f5, f6, f7, f8, f9, f10, f11, f12, f13, f14, f15, f16, f17, f18])), (a_from, .inl (cI, 8000, .inl u))] t) (va_A [(qd, .inr (9, [f0, f1, .ref a_from, .int (nI nb), f4, f5, f6, f7, f8, f9, f10, f11, f12, f13, f14, f15, f16, f17, f18])), (a_from, .inl (cI, 8000, .inl fr))] sz)) 0 0 (va_A [(qd, .inr (9, [f0, f1, .ref a_from, .int (nI nb), f4, f5, f6, f7, f8, f9, f10, f11, f12, f13, f14, f15, f16, f17, f18])), (a_from, .inl (cI, 8000, .inl fr))] sz) := by
  refine Met.ofW (cc := b_Board_setFrom) (maxL := 3) (ret := none) (by decide) rfl ?_
  intro p e s m args below meth c s₁ B hml hv
  obtain ⟨rfl, hsz, hP, hK, hD0, hF⟩ := hv
  have hx := B.exec
  have hb := B.bytes
  have hr := B.returns
  have hts := atoms_spec (ws := w_Board_setFrom) B.pre
  have hts : ∀ w ∈ tb, w.before _ s = true := fun w h => hts w (List.mem_cons_of_mem _ h)
  have hown : s.vm.findClass R_Board = some m.cls := findClass_of_methodNamed B.named
  have hlocks := B.notSynchronized
  subst hsz
  have hD := hD0.self (sz := s.heap.size)
  generalize hAe : va_A [(qd, .inr (9, [f0, f1, .ref a_from, .int (nI nb), f4, f5, f6, f7, f8, f9, f10, f11, f12, f13, f14, f15, f16, f17, f18])), (a_from, .inl (cI, 8000, .inl fr))] s.heap.size = A at hD hF ⊢
  have hA : ∀ q : Nat, s.heap.size ≤ q → A q := fun q h => by rw [← hAe]; exact Or.inr h
  have hS : va_S A s.heap s.heap [] := va_S.rf
  have hP : va_P (dC, dI) cl [(qd, .inr (9, [f0, f1, .ref a_from, .int (nI nb), f4, f5, f6, f7, f8, f9, f10, f11, f12, f13, f14, f15, f16, f17, f18])), (a_from, .inl (cI, 8000, .inl fr))] s.heap := hP
  have hl := lv_entry ([.ref qd, .int (nI i), .int x]) (n := 3) (Nat.le_of_ble_eq_true rfl)
  rw [lg_entry_eq]
  generalize (lg_sl ([.ref qd, .int (nI i), .int x]) ++ List.replicate (3 - (lg_sl ([.ref qd, .int (nI i), .int x])).length) Slot.unset).toArray = ls at hl ⊢
  have hl : lv_has ls 3 [(0, .ref qd), (1, .int (nI i)), (2, .int x)] := hl
  refine lv_iload_n hx hb d_Board_setFrom_0 rfl (lv_at hl 1 rfl) ?_
  refine nv_if_lt (tgt := 19) hx hb (by omega) d_Board_setFrom_1 (by decide) ?_
  refine lv_iload_n hx hb d_Board_setFrom_4 rfl (lv_at hl 1 rfl) ?_
  refine lv_aload_n hx hb d_Board_setFrom_5 rfl (lv_at hl 0 rfl) ?_
  refine va_get (D := (dC, dI)) (ci := 9) (v := .int (nI nb)) (C := R_Board) (T := F_Board) (N := 19) hx hb hts i_Board hown hK hP 0 rfl rfl 3 (by decide) (hts _ k_376) (fun _ h9 => h9) rfl d_Board_setFrom_6 ?_
  refine nv_icmp_ge (tgt := 19) hx hb (by omega) (by omega) d_Board_setFrom_9 (by decide) (fun c_2 => ?_) (fun c_2 => ?_)
  · exact wr_v hx hb hr hlocks (fr) (by first | rw [if_pos (by omega)] | rw [if_neg (by omega)]) hK hP hD hS d_Board_setFrom_19
  · refine lv_aload_n hx hb d_Board_setFrom_12 rfl (lv_at hl 0 rfl) ?_
    refine va_get (D := (dC, dI)) (ci := 9) (v := .ref a_from) (C := R_Board) (T := F_Board) (N := 19) hx hb hts i_Board hown hK hP 0 rfl rfl 2 (by decide) (hts _ k_375) (fun _ h9 => h9) rfl d_Board_setFrom_13 ?_
    refine lv_iload_n hx hb d_Board_setFrom_16 rfl (lv_at hl 1 rfl) ?_
    refine lv_iload_n hx hb d_Board_setFrom_17 rfl (lv_at hl 2 rfl) ?_
    refine nv_iast hx hb hK hP hD hS 1 1 rfl rfl (by omega) (by decide) d_Board_setFrom_18 (fun H locs hP hD hS => ?_)
    have hP : va_P (dC, dI) cl [(qd, .inr (9, [f0, f1, .ref a_from, .int (nI nb), f4, f5, f6, f7, f8, f9, f10, f11, f12, f13, f14, f15, f16, f17, f18])), (a_from, .inl (cI, 8000, .inl (upd fr i x)))] H := hP
    have hD : va_D A [(qd, .inr (9, [f0, f1, .ref a_from, .int (nI nb), f4, f5, f6, f7, f8, f9, f10, f11, f12, f13, f14, f15, f16, f17, f18])), (a_from, .inl (cI, 8000, .inl (upd fr i x)))] := hD
    exact wr_v hx hb hr hlocks (upd fr i x) (by first | rw [if_pos (by omega)] | rw [if_neg (by omega)]) hK hP hD hS d_Board_setFrom_19
