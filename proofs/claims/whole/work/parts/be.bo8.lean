set_option maxHeartbeats 4000000 in
set_option maxRecDepth 100000 in
theorem lp_Board_settleW {p : Program} {l : Launch} {e : Env} {s : State} {m : MethodId} {args : Array Value} {below : List Frame} {meth : Method} {c : Code} {Q : State → Prop} {A : Nat → Prop} {dC : Nat → ClassId} {dI : Nat → Nat → Nat} {cB cI cL cZ cC cO : ClassId} {qd a_firstIn a_secondIn a_value a_order : Nat}{f0 f1 f2 f3 f4 f7 f8 f11 f12 f15 f16 f17 : Value} {fi si od : Nat → Nat} {fg no : Nat} {F : (Nat → Bool) × Nat} (hno : no ≤ 300) (hgd : ∀ i, i < no → od i < 300 ∧ fi (od i) < 430 ∧ si (od i) < 430) (hfg : fg ≤ 130) (hx : p.tables.exec = Jvm.exec) (hb : c.code = b_Board_settle) (hml : c.maxLocals = 4) (hown : s.vm.findClass R_Board = some m.cls) (hts : ∀ w ∈ tb, w.before args s = true) (hA : ∀ q, s.heap.size ≤ q → A q) (hF : stF A s) (hK : va_K (dC, dI) cl [(cB, .byte), (cI, .int), (cL, .long), (cZ, .boolean), (cC, .char), (cO, .object "java/lang/Object")] s)
    (kx : ∀  (H : Heap) (locs : List Loc) (ls : Array Slot), va_P (dC, dI) cl [(qd, .inr (9, [f0, f1, f2, f3, f4, .ref a_firstIn, .ref a_secondIn, f7, f8, .int (nI fg), .ref a_value, f11, f12, .ref a_order, .int (nI no), f15, f16, f17, .int (nI F.2)])), (a_firstIn, .inl (cI, 300, .inl (nF fi))), (a_secondIn, .inl (cI, 300, .inl (nF si))), (a_value, .inl (cZ, 430, .inl (bF F.1))), (a_order, .inl (cI, 300, .inl (nF od)))] H → va_D A [(qd, .inr (9, [f0, f1, f2, f3, f4, .ref a_firstIn, .ref a_secondIn, f7, f8, .int (nI fg), .ref a_value, f11, f12, .ref a_order, .int (nI no), f15, f16, f17, .int (nI F.2)])), (a_firstIn, .inl (cI, 300, .inl (nF fi))), (a_secondIn, .inl (cI, 300, .inl (nF si))), (a_value, .inl (cZ, 430, .inl (bF F.1))), (a_order, .inl (cI, 300, .inl (nF od)))] → va_S A s.heap H locs → lv_has ls 4 [(0, .ref qd)] → W p l e (headSpec w_Board_settle { frames := 0, cells := 0, slots := 0, locals := 0 }).room s m args below meth c H locs 0 0 Q (F0 m 92 ls [])) :
    ∀ (k : Nat) (i : Nat) (va : Nat → Bool) (on : Nat) (H : Heap) (locs : List Loc) (ls : Array Slot), no < i + k → i ≤ no → bd_set od fi si fg (no - i) i (va, on) = F → va_P (dC, dI) cl [(qd, .inr (9, [f0, f1, f2, f3, f4, .ref a_firstIn, .ref a_secondIn, f7, f8, .int (nI fg), .ref a_value, f11, f12, .ref a_order, .int (nI no), f15, f16, f17, .int (nI on)])), (a_firstIn, .inl (cI, 300, .inl (nF fi))), (a_secondIn, .inl (cI, 300, .inl (nF si))), (a_value, .inl (cZ, 430, .inl (bF va))), (a_order, .inl (cI, 300, .inl (nF od)))] H → va_D A [(qd, .inr (9, [f0, f1, f2, f3, f4, .ref a_firstIn, .ref a_secondIn, f7, f8, .int (nI fg), .ref a_value, f11, f12, .ref a_order, .int (nI no), f15, f16, f17, .int (nI on)])), (a_firstIn, .inl (cI, 300, .inl (nF fi))), (a_secondIn, .inl (cI, 300, .inl (nF si))), (a_value, .inl (cZ, 430, .inl (bF va))), (a_order, .inl (cI, 300, .inl (nF od)))] → va_S A s.heap H locs → lv_has ls 4 [(1, .int (nI i)), (0, .ref qd)] → W p l e (headSpec w_Board_settle { frames := 0, cells := 0, slots := 0, locals := 0 }).room s m args below meth c H locs 0 0 Q (F0 m 7 ls []) := by
  intro k
  induction k with
  | zero =>
    intro i va on H locs ls hk hi hr hP hD hS hl
    exfalso; omega
  | succ k ih =>
    intro i va on H locs ls hk hi hr hP hD hS hl
    refine lv_iload_n hx hb d_Board_settle_7 rfl (lv_at hl 0 rfl) ?_
    refine lv_aload_n hx hb d_Board_settle_8 rfl (lv_at hl 1 rfl) ?_
    refine va_get (D := (dC, dI)) (ci := 9) (v := .int (nI no)) (C := R_Board) (T := F_Board) (N := 19) hx hb hts i_Board hown hK hP 0 rfl rfl 14 (by decide) (hts _ k_387) (fun _ h9 => h9) rfl d_Board_settle_9 ?_
    refine nv_icmp_ge (tgt := 92) hx hb (by omega) (by omega) d_Board_settle_12 (by decide) (fun c_1 => ?_) (fun c_1 => ?_)
    · have hq : (va, on) = F := by rw [← hr, bd_set_u, if_neg (by omega)]
      subst hq
      exact kx H locs ls hP hD hS (lv_sub hl [1] rfl)
    · refine lv_aload_n hx hb d_Board_settle_15 rfl (lv_at hl 1 rfl) ?_
      refine va_get (D := (dC, dI)) (ci := 9) (v := .ref a_order) (C := R_Board) (T := F_Board) (N := 19) hx hb hts i_Board hown hK hP 0 rfl rfl 13 (by decide) (hts _ k_386) (fun _ h9 => h9) rfl d_Board_settle_16 ?_
      refine lv_iload_n hx hb d_Board_settle_19 rfl (lv_at hl 0 rfl) ?_
      refine nv_iald hx hb hK hP 4 1 rfl rfl (by omega) (by decide) d_Board_settle_20 ?_
      refine lv_istore_n (lv' := [(2, .int (nI (od i))), (1, .int (nI i)), (0, .ref qd)]) hx hb d_Board_settle_21 rfl hl (by decide) rfl (fun ls hl => ?_)
      refine lv_aload_n hx hb d_Board_settle_22 rfl (lv_at hl 2 rfl) ?_
      refine va_get (D := (dC, dI)) (ci := 9) (v := .ref a_value) (C := R_Board) (T := F_Board) (N := 19) hx hb hts i_Board hown hK hP 0 rfl rfl 10 (by decide) (hts _ k_383) (fun _ h9 => h9) rfl d_Board_settle_23 ?_
      refine lv_aload_n hx hb d_Board_settle_26 rfl (lv_at hl 2 rfl) ?_
      refine va_get (D := (dC, dI)) (ci := 9) (v := .ref a_firstIn) (C := R_Board) (T := F_Board) (N := 19) hx hb hts i_Board hown hK hP 0 rfl rfl 5 (by decide) (hts _ k_378) (fun _ h9 => h9) rfl d_Board_settle_27 ?_
      refine lv_iload_n hx hb d_Board_settle_30 rfl (lv_at hl 0 rfl) ?_
      refine nv_iald hx hb hK hP 1 1 rfl rfl (hgd i (by omega)).1 (by decide) d_Board_settle_31 ?_
      refine nv_zald hx hb hK hP 3 3 rfl rfl (hgd i (by omega)).2.1 (by decide) d_Board_settle_32 ?_
      refine nv_bif_eq (tgt := 50) hx hb d_Board_settle_33 (by decide) (fun c_2 => ?_) (fun c_2 => ?_)
      · refine lv_iconst (v := nI 1) hx hb d_Board_settle_50 (by decide) ?_
        refine lv_goto (tgt := 55) hx hb d_Board_settle_51 (by decide) ?_
        refine lv_istore_n (lv' := [(3, .int (nI 1)), (2, .int (nI (od i))), (1, .int (nI i)), (0, .ref qd)]) hx hb d_Board_settle_55 rfl hl (by decide) rfl (fun ls hl => ?_)
        refine lv_aload_n hx hb d_Board_settle_56 rfl (lv_at hl 3 rfl) ?_
        refine va_get (D := (dC, dI)) (ci := 9) (v := .ref a_value) (C := R_Board) (T := F_Board) (N := 19) hx hb hts i_Board hown hK hP 0 rfl rfl 10 (by decide) (hts _ k_383) (fun _ h9 => h9) rfl d_Board_settle_57 ?_
        refine lv_aload_n hx hb d_Board_settle_60 rfl (lv_at hl 3 rfl) ?_
        refine va_get (D := (dC, dI)) (ci := 9) (v := .int (nI fg)) (C := R_Board) (T := F_Board) (N := 19) hx hb hts i_Board hown hK hP 0 rfl rfl 9 (by decide) (hts _ k_382) (fun _ h9 => h9) rfl d_Board_settle_61 ?_
        refine lv_iload_n hx hb d_Board_settle_64 rfl (lv_at hl 1 rfl) ?_
        refine nv_iadd hx hb d_Board_settle_65 ?_
        refine lv_iload_n hx hb d_Board_settle_66 rfl (lv_at hl 0 rfl) ?_
        refine nv_zastB (x := true) hx hb hK hP hD hS 3 3 rfl rfl (by have := (hgd i (by omega)).1; omega) (by decide) d_Board_settle_67 (fun H locs hP hD hS => ?_)
        have hP : va_P (dC, dI) cl [(qd, .inr (9, [f0, f1, f2, f3, f4, .ref a_firstIn, .ref a_secondIn, f7, f8, .int (nI fg), .ref a_value, f11, f12, .ref a_order, .int (nI no), f15, f16, f17, .int (nI on)])), (a_firstIn, .inl (cI, 300, .inl (nF fi))), (a_secondIn, .inl (cI, 300, .inl (nF si))), (a_value, .inl (cZ, 430, .inl (bF (va_up va (fg + (od i)) true)))), (a_order, .inl (cI, 300, .inl (nF od)))] H := hP
        have hD : va_D A [(qd, .inr (9, [f0, f1, f2, f3, f4, .ref a_firstIn, .ref a_secondIn, f7, f8, .int (nI fg), .ref a_value, f11, f12, .ref a_order, .int (nI no), f15, f16, f17, .int (nI on)])), (a_firstIn, .inl (cI, 300, .inl (nF fi))), (a_secondIn, .inl (cI, 300, .inl (nF si))), (a_value, .inl (cZ, 430, .inl (bF (va_up va (fg + (od i)) true)))), (a_order, .inl (cI, 300, .inl (nF od)))] := hD
        refine lv_aload_n hx hb d_Board_settle_68 rfl (lv_at hl 3 rfl) ?_
        refine lv_dup hx hb d_Board_settle_69 rfl ?_
        refine va_get (D := (dC, dI)) (ci := 9) (v := .int (nI on)) (C := R_Board) (T := F_Board) (N := 19) hx hb hts i_Board hown hK hP 0 rfl rfl 18 (by decide) (hts _ k_391) (fun _ h9 => h9) rfl d_Board_settle_70 ?_
        refine lv_iload_n hx hb d_Board_settle_73 rfl (lv_at hl 0 rfl) ?_
        refine nv_if_eq (tgt := 81) hx hb (by omega) d_Board_settle_74 (by decide) (fun c_3 => ?_) (fun c_3 => ?_)
        · exact absurd c_3 (by decide)
        · refine lv_iconst (v := nI 1) hx hb d_Board_settle_77 (by decide) ?_
          refine lv_goto (tgt := 82) hx hb d_Board_settle_78 (by decide) ?_
          refine nv_iadd hx hb d_Board_settle_82 ?_
          refine va_put (D := (dC, dI)) (ci := 9) (v := .int (nI (on + 1))) (ty := .int) (C := R_Board) (T := F_Board) (N := 19) hx hb hts i_Board t_Board t_Board_ok n_Board hown hK hP hD hS 0 rfl rfl 18 (by decide) (hts _ k_391) (fun _ h9 => h9) rfl (by decide +kernel) rfl rfl (Nat.le_of_ble_eq_true rfl) d_Board_settle_83 (fun H locs hP hD hS => ?_)
          have hP : va_P (dC, dI) cl [(qd, .inr (9, [f0, f1, f2, f3, f4, .ref a_firstIn, .ref a_secondIn, f7, f8, .int (nI fg), .ref a_value, f11, f12, .ref a_order, .int (nI no), f15, f16, f17, .int (nI (on + 1))])), (a_firstIn, .inl (cI, 300, .inl (nF fi))), (a_secondIn, .inl (cI, 300, .inl (nF si))), (a_value, .inl (cZ, 430, .inl (bF (va_up va (fg + (od i)) true)))), (a_order, .inl (cI, 300, .inl (nF od)))] H := hP
          have hD : va_D A [(qd, .inr (9, [f0, f1, f2, f3, f4, .ref a_firstIn, .ref a_secondIn, f7, f8, .int (nI fg), .ref a_value, f11, f12, .ref a_order, .int (nI no), f15, f16, f17, .int (nI (on + 1))])), (a_firstIn, .inl (cI, 300, .inl (nF fi))), (a_secondIn, .inl (cI, 300, .inl (nF si))), (a_value, .inl (cZ, 430, .inl (bF (va_up va (fg + (od i)) true)))), (a_order, .inl (cI, 300, .inl (nF od)))] := hD
          refine lv_iinc (v := nI (i + 1)) (lv' := [(1, .int (nI (i + 1))), (3, .int (nI 1)), (2, .int (nI (od i))), (0, .ref qd)]) hx hb d_Board_settle_86 hl (k := 2) rfl (nI_1 _) (by decide) rfl (fun ls hl => ?_)
          refine lv_goto (tgt := 7) hx hb d_Board_settle_89 (by decide) ?_
          have hg : bd_nand fi si va (od i) = true := by simp [bd_nand, c_2]
          exact ih (i + 1) _ _ H locs ls (by omega) (by omega) (by rw [← hr, bd_set_u od fi si fg no i, if_pos (by omega), hg]; rfl) hP hD hS (lv_sub hl [0, 3] rfl)
      · refine lv_aload_n hx hb d_Board_settle_36 rfl (lv_at hl 2 rfl) ?_
        refine va_get (D := (dC, dI)) (ci := 9) (v := .ref a_value) (C := R_Board) (T := F_Board) (N := 19) hx hb hts i_Board hown hK hP 0 rfl rfl 10 (by decide) (hts _ k_383) (fun _ h9 => h9) rfl d_Board_settle_37 ?_
        refine lv_aload_n hx hb d_Board_settle_40 rfl (lv_at hl 2 rfl) ?_
        refine va_get (D := (dC, dI)) (ci := 9) (v := .ref a_secondIn) (C := R_Board) (T := F_Board) (N := 19) hx hb hts i_Board hown hK hP 0 rfl rfl 6 (by decide) (hts _ k_379) (fun _ h9 => h9) rfl d_Board_settle_41 ?_
        refine lv_iload_n hx hb d_Board_settle_44 rfl (lv_at hl 0 rfl) ?_
        refine nv_iald hx hb hK hP 2 1 rfl rfl (hgd i (by omega)).1 (by decide) d_Board_settle_45 ?_
        refine nv_zald hx hb hK hP 3 3 rfl rfl (hgd i (by omega)).2.2 (by decide) d_Board_settle_46 ?_
        refine nv_bif_ne (tgt := 54) hx hb d_Board_settle_47 (by decide) (fun c_4 => ?_) (fun c_4 => ?_)
        · refine lv_iconst (v := nI 0) hx hb d_Board_settle_54 (by decide) ?_
          refine lv_istore_n (lv' := [(3, .int (nI 0)), (2, .int (nI (od i))), (1, .int (nI i)), (0, .ref qd)]) hx hb d_Board_settle_55 rfl hl (by decide) rfl (fun ls hl => ?_)
          refine lv_aload_n hx hb d_Board_settle_56 rfl (lv_at hl 3 rfl) ?_
          refine va_get (D := (dC, dI)) (ci := 9) (v := .ref a_value) (C := R_Board) (T := F_Board) (N := 19) hx hb hts i_Board hown hK hP 0 rfl rfl 10 (by decide) (hts _ k_383) (fun _ h9 => h9) rfl d_Board_settle_57 ?_
          refine lv_aload_n hx hb d_Board_settle_60 rfl (lv_at hl 3 rfl) ?_
          refine va_get (D := (dC, dI)) (ci := 9) (v := .int (nI fg)) (C := R_Board) (T := F_Board) (N := 19) hx hb hts i_Board hown hK hP 0 rfl rfl 9 (by decide) (hts _ k_382) (fun _ h9 => h9) rfl d_Board_settle_61 ?_
          refine lv_iload_n hx hb d_Board_settle_64 rfl (lv_at hl 1 rfl) ?_
          refine nv_iadd hx hb d_Board_settle_65 ?_
          refine lv_iload_n hx hb d_Board_settle_66 rfl (lv_at hl 0 rfl) ?_
          refine nv_zastB (x := false) hx hb hK hP hD hS 3 3 rfl rfl (by have := (hgd i (by omega)).1; omega) (by decide) d_Board_settle_67 (fun H locs hP hD hS => ?_)
          have hP : va_P (dC, dI) cl [(qd, .inr (9, [f0, f1, f2, f3, f4, .ref a_firstIn, .ref a_secondIn, f7, f8, .int (nI fg), .ref a_value, f11, f12, .ref a_order, .int (nI no), f15, f16, f17, .int (nI on)])), (a_firstIn, .inl (cI, 300, .inl (nF fi))), (a_secondIn, .inl (cI, 300, .inl (nF si))), (a_value, .inl (cZ, 430, .inl (bF (va_up va (fg + (od i)) false)))), (a_order, .inl (cI, 300, .inl (nF od)))] H := hP
          have hD : va_D A [(qd, .inr (9, [f0, f1, f2, f3, f4, .ref a_firstIn, .ref a_secondIn, f7, f8, .int (nI fg), .ref a_value, f11, f12, .ref a_order, .int (nI no), f15, f16, f17, .int (nI on)])), (a_firstIn, .inl (cI, 300, .inl (nF fi))), (a_secondIn, .inl (cI, 300, .inl (nF si))), (a_value, .inl (cZ, 430, .inl (bF (va_up va (fg + (od i)) false)))), (a_order, .inl (cI, 300, .inl (nF od)))] := hD
          refine lv_aload_n hx hb d_Board_settle_68 rfl (lv_at hl 3 rfl) ?_
          refine lv_dup hx hb d_Board_settle_69 rfl ?_
          refine va_get (D := (dC, dI)) (ci := 9) (v := .int (nI on)) (C := R_Board) (T := F_Board) (N := 19) hx hb hts i_Board hown hK hP 0 rfl rfl 18 (by decide) (hts _ k_391) (fun _ h9 => h9) rfl d_Board_settle_70 ?_
          refine lv_iload_n hx hb d_Board_settle_73 rfl (lv_at hl 0 rfl) ?_
          refine nv_if_eq (tgt := 81) hx hb (by omega) d_Board_settle_74 (by decide) (fun c_5 => ?_) (fun c_5 => ?_)
          · refine lv_iconst (v := nI 0) hx hb d_Board_settle_81 (by decide) ?_
            refine nv_iadd hx hb d_Board_settle_82 ?_
            refine va_put (D := (dC, dI)) (ci := 9) (v := .int (nI (on + 0))) (ty := .int) (C := R_Board) (T := F_Board) (N := 19) hx hb hts i_Board t_Board t_Board_ok n_Board hown hK hP hD hS 0 rfl rfl 18 (by decide) (hts _ k_391) (fun _ h9 => h9) rfl (by decide +kernel) rfl rfl (Nat.le_of_ble_eq_true rfl) d_Board_settle_83 (fun H locs hP hD hS => ?_)
            have hP : va_P (dC, dI) cl [(qd, .inr (9, [f0, f1, f2, f3, f4, .ref a_firstIn, .ref a_secondIn, f7, f8, .int (nI fg), .ref a_value, f11, f12, .ref a_order, .int (nI no), f15, f16, f17, .int (nI (on + 0))])), (a_firstIn, .inl (cI, 300, .inl (nF fi))), (a_secondIn, .inl (cI, 300, .inl (nF si))), (a_value, .inl (cZ, 430, .inl (bF (va_up va (fg + (od i)) false)))), (a_order, .inl (cI, 300, .inl (nF od)))] H := hP
            have hD : va_D A [(qd, .inr (9, [f0, f1, f2, f3, f4, .ref a_firstIn, .ref a_secondIn, f7, f8, .int (nI fg), .ref a_value, f11, f12, .ref a_order, .int (nI no), f15, f16, f17, .int (nI (on + 0))])), (a_firstIn, .inl (cI, 300, .inl (nF fi))), (a_secondIn, .inl (cI, 300, .inl (nF si))), (a_value, .inl (cZ, 430, .inl (bF (va_up va (fg + (od i)) false)))), (a_order, .inl (cI, 300, .inl (nF od)))] := hD
            refine lv_iinc (v := nI (i + 1)) (lv' := [(1, .int (nI (i + 1))), (3, .int (nI 0)), (2, .int (nI (od i))), (0, .ref qd)]) hx hb d_Board_settle_86 hl (k := 2) rfl (nI_1 _) (by decide) rfl (fun ls hl => ?_)
            refine lv_goto (tgt := 7) hx hb d_Board_settle_89 (by decide) ?_
            have hg : bd_nand fi si va (od i) = false := by simp [bd_nand, c_2, c_4]
            exact ih (i + 1) _ _ H locs ls (by omega) (by omega) (by rw [← hr, bd_set_u od fi si fg no i, if_pos (by omega), hg]; rfl) hP hD hS (lv_sub hl [0, 3] rfl)
          · exact absurd c_5 (by decide)
        · refine lv_iconst (v := nI 1) hx hb d_Board_settle_50 (by decide) ?_
          refine lv_goto (tgt := 55) hx hb d_Board_settle_51 (by decide) ?_
          refine lv_istore_n (lv' := [(3, .int (nI 1)), (2, .int (nI (od i))), (1, .int (nI i)), (0, .ref qd)]) hx hb d_Board_settle_55 rfl hl (by decide) rfl (fun ls hl => ?_)
          refine lv_aload_n hx hb d_Board_settle_56 rfl (lv_at hl 3 rfl) ?_
          refine va_get (D := (dC, dI)) (ci := 9) (v := .ref a_value) (C := R_Board) (T := F_Board) (N := 19) hx hb hts i_Board hown hK hP 0 rfl rfl 10 (by decide) (hts _ k_383) (fun _ h9 => h9) rfl d_Board_settle_57 ?_
          refine lv_aload_n hx hb d_Board_settle_60 rfl (lv_at hl 3 rfl) ?_
          refine va_get (D := (dC, dI)) (ci := 9) (v := .int (nI fg)) (C := R_Board) (T := F_Board) (N := 19) hx hb hts i_Board hown hK hP 0 rfl rfl 9 (by decide) (hts _ k_382) (fun _ h9 => h9) rfl d_Board_settle_61 ?_
          refine lv_iload_n hx hb d_Board_settle_64 rfl (lv_at hl 1 rfl) ?_
          refine nv_iadd hx hb d_Board_settle_65 ?_
          refine lv_iload_n hx hb d_Board_settle_66 rfl (lv_at hl 0 rfl) ?_
          refine nv_zastB (x := true) hx hb hK hP hD hS 3 3 rfl rfl (by have := (hgd i (by omega)).1; omega) (by decide) d_Board_settle_67 (fun H locs hP hD hS => ?_)
          have hP : va_P (dC, dI) cl [(qd, .inr (9, [f0, f1, f2, f3, f4, .ref a_firstIn, .ref a_secondIn, f7, f8, .int (nI fg), .ref a_value, f11, f12, .ref a_order, .int (nI no), f15, f16, f17, .int (nI on)])), (a_firstIn, .inl (cI, 300, .inl (nF fi))), (a_secondIn, .inl (cI, 300, .inl (nF si))), (a_value, .inl (cZ, 430, .inl (bF (va_up va (fg + (od i)) true)))), (a_order, .inl (cI, 300, .inl (nF od)))] H := hP
          have hD : va_D A [(qd, .inr (9, [f0, f1, f2, f3, f4, .ref a_firstIn, .ref a_secondIn, f7, f8, .int (nI fg), .ref a_value, f11, f12, .ref a_order, .int (nI no), f15, f16, f17, .int (nI on)])), (a_firstIn, .inl (cI, 300, .inl (nF fi))), (a_secondIn, .inl (cI, 300, .inl (nF si))), (a_value, .inl (cZ, 430, .inl (bF (va_up va (fg + (od i)) true)))), (a_order, .inl (cI, 300, .inl (nF od)))] := hD
          refine lv_aload_n hx hb d_Board_settle_68 rfl (lv_at hl 3 rfl) ?_
          refine lv_dup hx hb d_Board_settle_69 rfl ?_
          refine va_get (D := (dC, dI)) (ci := 9) (v := .int (nI on)) (C := R_Board) (T := F_Board) (N := 19) hx hb hts i_Board hown hK hP 0 rfl rfl 18 (by decide) (hts _ k_391) (fun _ h9 => h9) rfl d_Board_settle_70 ?_
          refine lv_iload_n hx hb d_Board_settle_73 rfl (lv_at hl 0 rfl) ?_
          refine nv_if_eq (tgt := 81) hx hb (by omega) d_Board_settle_74 (by decide) (fun c_6 => ?_) (fun c_6 => ?_)
          · exact absurd c_6 (by decide)
          · refine lv_iconst (v := nI 1) hx hb d_Board_settle_77 (by decide) ?_
            refine lv_goto (tgt := 82) hx hb d_Board_settle_78 (by decide) ?_
            refine nv_iadd hx hb d_Board_settle_82 ?_
            refine va_put (D := (dC, dI)) (ci := 9) (v := .int (nI (on + 1))) (ty := .int) (C := R_Board) (T := F_Board) (N := 19) hx hb hts i_Board t_Board t_Board_ok n_Board hown hK hP hD hS 0 rfl rfl 18 (by decide) (hts _ k_391) (fun _ h9 => h9) rfl (by decide +kernel) rfl rfl (Nat.le_of_ble_eq_true rfl) d_Board_settle_83 (fun H locs hP hD hS => ?_)
            have hP : va_P (dC, dI) cl [(qd, .inr (9, [f0, f1, f2, f3, f4, .ref a_firstIn, .ref a_secondIn, f7, f8, .int (nI fg), .ref a_value, f11, f12, .ref a_order, .int (nI no), f15, f16, f17, .int (nI (on + 1))])), (a_firstIn, .inl (cI, 300, .inl (nF fi))), (a_secondIn, .inl (cI, 300, .inl (nF si))), (a_value, .inl (cZ, 430, .inl (bF (va_up va (fg + (od i)) true)))), (a_order, .inl (cI, 300, .inl (nF od)))] H := hP
            have hD : va_D A [(qd, .inr (9, [f0, f1, f2, f3, f4, .ref a_firstIn, .ref a_secondIn, f7, f8, .int (nI fg), .ref a_value, f11, f12, .ref a_order, .int (nI no), f15, f16, f17, .int (nI (on + 1))])), (a_firstIn, .inl (cI, 300, .inl (nF fi))), (a_secondIn, .inl (cI, 300, .inl (nF si))), (a_value, .inl (cZ, 430, .inl (bF (va_up va (fg + (od i)) true)))), (a_order, .inl (cI, 300, .inl (nF od)))] := hD
            refine lv_iinc (v := nI (i + 1)) (lv' := [(1, .int (nI (i + 1))), (3, .int (nI 1)), (2, .int (nI (od i))), (0, .ref qd)]) hx hb d_Board_settle_86 hl (k := 2) rfl (nI_1 _) (by decide) rfl (fun ls hl => ?_)
            refine lv_goto (tgt := 7) hx hb d_Board_settle_89 (by decide) ?_
            have hg : bd_nand fi si va (od i) = true := by simp [bd_nand, c_2, c_4]
            exact ih (i + 1) _ _ H locs ls (by omega) (by omega) (by rw [← hr, bd_set_u od fi si fg no i, if_pos (by omega), hg]; rfl) hP hD hS (lv_sub hl [0, 3] rfl)
set_option maxHeartbeats 4000000 in
set_option maxRecDepth 100000 in
/-- settle() -/
theorem c_Board_settleW (l : Launch) (dC : Nat → ClassId) (dI : Nat → Nat → Nat) (cB cI cL cZ cC cO : ClassId) {qd a_firstIn a_secondIn a_value a_order : Nat}{f0 f1 f2 f3 f4 f7 f8 f11 f12 f15 f16 f17 : Value} {f18 : Value} (fi si od : Nat → Nat) (va : Nat → Bool) (fg no : Nat) (sz : Nat) (hno : no ≤ 300) (hgd : ∀ i, i < no → od i < 300 ∧ fi (od i) < 430 ∧ si (od i) < 430) (hfg : fg ≤ 130) : Met l y_Board_settle w_Board_settle ({ frames := 0, cells := 0, slots := 0, locals := 0 }) (va_Pc [.ref qd] (wB (dC, dI) cl [(cB, .byte), (cI, .int), (cL, .long), (cZ, .boolean), (cC, .char), (cO, .object "java/lang/Object")] sz [(qd, .inr (9, [f0, f1, f2, f3, f4, .ref a_firstIn, .ref a_secondIn, f7, f8, .int (nI fg), .ref a_value, f11, f12, .ref a_order, .int (nI no), f15, f16, f17, f18])), (a_firstIn, .inl (cI, 300, .inl (nF fi))), (a_secondIn, .inl (cI, 300, .inl (nF si))), (a_value, .inl (cZ, 430, .inl (bF va))), (a_order, .inl (cI, 300, .inl (nF od)))])) (va_Qv (fun (u : (Nat → Bool) × Nat) => u = bd_set od fi si fg no 0 (va, 0)) (fun u t => wA (dC, dI) cl [(cB, .byte), (cI, .int), (cL, .long), (cZ, .boolean), (cC, .char), (cO, .object "java/lang/Object")] (va_A [(qd, .inr (9, [f0, f1, f2, f3, f4, .ref a_firstIn, .ref a_secondIn, f7, f8, .int (nI fg), .ref a_value, f11, f12, .ref a_order, .int (nI no), f15, f16, f17, f18])), (a_firstIn, .inl (cI, 300, .inl (nF fi))), (a_secondIn, .inl (cI, 300, .inl (nF si))), (a_value, .inl (cZ, 430, .inl (bF va))), (a_order, .inl (cI, 300, .inl (nF od)))] sz) [(qd, .inr (9, [f0, f1, f2, f3, f4, .ref a_firstIn, .ref a_secondIn, f7, f8, .int (nI fg), .ref a_value, f11, f12, .ref a_order, .int (nI no), f15, f16, f17, .int (nI u.2)])), (a_firstIn, .inl (cI, 300, .inl (nF fi))), (a_secondIn, .inl (cI, 300, .inl (nF si))), (a_value, .inl (cZ, 430, .inl (bF u.1))), (a_order, .inl (cI, 300, .inl (nF od)))] t) (va_A [(qd, .inr (9, [f0, f1, f2, f3, f4, .ref a_firstIn, .ref a_secondIn, f7, f8, .int (nI fg), .ref a_value, f11, f12, .ref a_order, .int (nI no), f15, f16, f17, f18])), (a_firstIn, .inl (cI, 300, .inl (nF fi))), (a_secondIn, .inl (cI, 300, .inl (nF si))), (a_value, .inl (cZ, 430, .inl (bF va))), (a_order, .inl (cI, 300, .inl (nF od)))] sz)) 0 0 (va_A [(qd, .inr (9, [f0, f1, f2, f3, f4, .ref a_firstIn, .ref a_secondIn, f7, f8, .int (nI fg), .ref a_value, f11, f12, .ref a_order, .int (nI no), f15, f16, f17, f18])), (a_firstIn, .inl (cI, 300, .inl (nF fi))), (a_secondIn, .inl (cI, 300, .inl (nF si))), (a_value, .inl (cZ, 430, .inl (bF va))), (a_order, .inl (cI, 300, .inl (nF od)))] sz) := by
  refine Met.ofW (cc := b_Board_settle) (maxL := 4) (ret := none) (by decide) rfl ?_
  intro p e s m args below meth c s₁ B hml hv
  obtain ⟨rfl, hsz, hP, hK, hD0, hF⟩ := hv
  have hx := B.exec
  have hb := B.bytes
  have hr := B.returns
  have hts := atoms_spec (ws := w_Board_settle) B.pre
  have hts : ∀ w ∈ tb, w.before _ s = true := fun w h => hts w (List.mem_cons_of_mem _ h)
  have hown : s.vm.findClass R_Board = some m.cls := findClass_of_methodNamed B.named
  have hlocks := B.notSynchronized
  subst hsz
  have hD := hD0.self (sz := s.heap.size)
  generalize hAe : va_A [(qd, .inr (9, [f0, f1, f2, f3, f4, .ref a_firstIn, .ref a_secondIn, f7, f8, .int (nI fg), .ref a_value, f11, f12, .ref a_order, .int (nI no), f15, f16, f17, f18])), (a_firstIn, .inl (cI, 300, .inl (nF fi))), (a_secondIn, .inl (cI, 300, .inl (nF si))), (a_value, .inl (cZ, 430, .inl (bF va))), (a_order, .inl (cI, 300, .inl (nF od)))] s.heap.size = A at hD hF ⊢
  have hA : ∀ q : Nat, s.heap.size ≤ q → A q := fun q h => by rw [← hAe]; exact Or.inr h
  have hS : va_S A s.heap s.heap [] := va_S.rf
  have hP : va_P (dC, dI) cl [(qd, .inr (9, [f0, f1, f2, f3, f4, .ref a_firstIn, .ref a_secondIn, f7, f8, .int (nI fg), .ref a_value, f11, f12, .ref a_order, .int (nI no), f15, f16, f17, f18])), (a_firstIn, .inl (cI, 300, .inl (nF fi))), (a_secondIn, .inl (cI, 300, .inl (nF si))), (a_value, .inl (cZ, 430, .inl (bF va))), (a_order, .inl (cI, 300, .inl (nF od)))] s.heap := hP
  have hl := lv_entry ([.ref qd]) (n := 4) (Nat.le_of_ble_eq_true rfl)
  rw [lg_entry_eq]
  generalize (lg_sl ([.ref qd]) ++ List.replicate (4 - (lg_sl ([.ref qd])).length) Slot.unset).toArray = ls at hl ⊢
  have hl : lv_has ls 4 [(0, .ref qd)] := hl
  refine lv_aload_n hx hb d_Board_settle_0 rfl (lv_at hl 0 rfl) ?_
  refine lv_iconst (v := nI 0) hx hb d_Board_settle_1 (by decide) ?_
  refine va_put (D := (dC, dI)) (ci := 9) (v := .int (nI 0)) (ty := .int) (C := R_Board) (T := F_Board) (N := 19) hx hb hts i_Board t_Board t_Board_ok n_Board hown hK hP hD hS 0 rfl rfl 18 (by decide) (hts _ k_391) (fun _ h9 => h9) rfl (by decide +kernel) rfl rfl (Nat.le_of_ble_eq_true rfl) d_Board_settle_2 (fun H locs hP hD hS => ?_)
  have hP : va_P (dC, dI) cl [(qd, .inr (9, [f0, f1, f2, f3, f4, .ref a_firstIn, .ref a_secondIn, f7, f8, .int (nI fg), .ref a_value, f11, f12, .ref a_order, .int (nI no), f15, f16, f17, .int (nI 0)])), (a_firstIn, .inl (cI, 300, .inl (nF fi))), (a_secondIn, .inl (cI, 300, .inl (nF si))), (a_value, .inl (cZ, 430, .inl (bF va))), (a_order, .inl (cI, 300, .inl (nF od)))] H := hP
  have hD : va_D A [(qd, .inr (9, [f0, f1, f2, f3, f4, .ref a_firstIn, .ref a_secondIn, f7, f8, .int (nI fg), .ref a_value, f11, f12, .ref a_order, .int (nI no), f15, f16, f17, .int (nI 0)])), (a_firstIn, .inl (cI, 300, .inl (nF fi))), (a_secondIn, .inl (cI, 300, .inl (nF si))), (a_value, .inl (cZ, 430, .inl (bF va))), (a_order, .inl (cI, 300, .inl (nF od)))] := hD
  refine lv_iconst (v := nI 0) hx hb d_Board_settle_5 (by decide) ?_
  refine lv_istore_n (lv' := [(1, .int (nI 0)), (0, .ref qd)]) hx hb d_Board_settle_6 rfl hl (by decide) rfl (fun ls hl => ?_)
  refine lp_Board_settleW (F := (bd_set od fi si fg no 0 (va, 0))) hno hgd hfg hx hb hml hown hts hA hF hK (fun H locs ls hP hD hS hl => ?_) (no + 1) 0 va 0 _ _ ls (by omega) (by omega) rfl hP hD hS (lv_sub hl [0, 1] rfl)
  exact wr_v hx hb hr hlocks (bd_set od fi si fg no 0 (va, 0)) rfl hK hP hD hS d_Board_settle_92
set_option maxHeartbeats 4000000 in
set_option maxRecDepth 100000 in
theorem lp_Board_step1W {p : Program} {l : Launch} {e : Env} {s : State} {m : MethodId} {args : Array Value} {below : List Frame} {meth : Method} {c : Code} {Q : State → Prop} {A : Nat → Prop} {dC : Nat → ClassId} {dI : Nat → Nat → Nat} {cB cI cL cZ cC cO : ClassId} {qd qc a_isDff a_firstIn a_secondIn a_value a_order a_next : Nat}{f1 f2 f3 f8 f11 f12 f15 : Value} {f18 : Value} {fi si od : Nat → Nat} {isd : Nat → Bool} {fg no ng tc : Nat} {va F : Nat → Bool} (hng : ng ≤ 300) (hno : no ≤ 300) (hgd : ∀ i, i < no → od i < 300 ∧ fi (od i) < 430 ∧ si (od i) < 430) (hfn : ∀ g, g < ng → fi g < 430) (hfg : fg ≤ 130) (hx : p.tables.exec = Jvm.exec) (hb : c.code = b_Board_step) (hml : c.maxLocals = 3) (hown : s.vm.findClass R_Board = some m.cls) (hts : ∀ w ∈ tb, w.before args s = true) (hA : ∀ q, s.heap.size ≤ q → A q) (hF : stF A s) (hK : va_K (dC, dI) cl [(cB, .byte), (cI, .int), (cL, .long), (cZ, .boolean), (cC, .char), (cO, .object "java/lang/Object")] s)
    (kx : ∀  (H : Heap) (locs : List Loc) (ls : Array Slot), va_P (dC, dI) cl [(qd, .inr (9, [.ref qc, f1, f2, f3, .ref a_isDff, .ref a_firstIn, .ref a_secondIn, .int (nI ng), f8, .int (nI fg), .ref a_value, f11, f12, .ref a_order, .int (nI no), f15, .ref a_next, .int (nI tc), f18])), (a_isDff, .inl (cZ, 300, .inl (bF isd))), (a_firstIn, .inl (cI, 300, .inl (nF fi))), (a_secondIn, .inl (cI, 300, .inl (nF si))), (a_value, .inl (cZ, 430, .inl (bF va))), (a_order, .inl (cI, 300, .inl (nF od))), (a_next, .inl (cZ, 300, .inl (bF F)))] H → va_D A [(qd, .inr (9, [.ref qc, f1, f2, f3, .ref a_isDff, .ref a_firstIn, .ref a_secondIn, .int (nI ng), f8, .int (nI fg), .ref a_value, f11, f12, .ref a_order, .int (nI no), f15, .ref a_next, .int (nI tc), f18])), (a_isDff, .inl (cZ, 300, .inl (bF isd))), (a_firstIn, .inl (cI, 300, .inl (nF fi))), (a_secondIn, .inl (cI, 300, .inl (nF si))), (a_value, .inl (cZ, 430, .inl (bF va))), (a_order, .inl (cI, 300, .inl (nF od))), (a_next, .inl (cZ, 300, .inl (bF F)))] → va_S A s.heap H locs → lv_has ls 3 [(0, .ref qd)] → W p l e (headSpec w_Board_step { frames := 1, cells := 0, slots := 0, locals := 30 }).room s m args below meth c H locs 0 0 Q (F0 m 42 ls [])) :
    ∀ (k : Nat) (i : Nat) (nx : Nat → Bool) (H : Heap) (locs : List Loc) (ls : Array Slot), ng < i + k → i ≤ ng → bd_nx fi va (ng - i) i nx = F → va_P (dC, dI) cl [(qd, .inr (9, [.ref qc, f1, f2, f3, .ref a_isDff, .ref a_firstIn, .ref a_secondIn, .int (nI ng), f8, .int (nI fg), .ref a_value, f11, f12, .ref a_order, .int (nI no), f15, .ref a_next, .int (nI tc), f18])), (a_isDff, .inl (cZ, 300, .inl (bF isd))), (a_firstIn, .inl (cI, 300, .inl (nF fi))), (a_secondIn, .inl (cI, 300, .inl (nF si))), (a_value, .inl (cZ, 430, .inl (bF va))), (a_order, .inl (cI, 300, .inl (nF od))), (a_next, .inl (cZ, 300, .inl (bF nx)))] H → va_D A [(qd, .inr (9, [.ref qc, f1, f2, f3, .ref a_isDff, .ref a_firstIn, .ref a_secondIn, .int (nI ng), f8, .int (nI fg), .ref a_value, f11, f12, .ref a_order, .int (nI no), f15, .ref a_next, .int (nI tc), f18])), (a_isDff, .inl (cZ, 300, .inl (bF isd))), (a_firstIn, .inl (cI, 300, .inl (nF fi))), (a_secondIn, .inl (cI, 300, .inl (nF si))), (a_value, .inl (cZ, 430, .inl (bF va))), (a_order, .inl (cI, 300, .inl (nF od))), (a_next, .inl (cZ, 300, .inl (bF nx)))] → va_S A s.heap H locs → lv_has ls 3 [(1, .int (nI i)), (0, .ref qd)] → W p l e (headSpec w_Board_step { frames := 1, cells := 0, slots := 0, locals := 30 }).room s m args below meth c H locs 0 0 Q (F0 m 11 ls []) := by
  intro k
  induction k with
  | zero =>
    intro i nx H locs ls hk hi hr hP hD hS hl
    exfalso; omega
  | succ k ih =>
    intro i nx H locs ls hk hi hr hP hD hS hl
    refine lv_iload_n hx hb d_Board_step_11 rfl (lv_at hl 0 rfl) ?_
    refine lv_aload_n hx hb d_Board_step_12 rfl (lv_at hl 1 rfl) ?_
    refine va_get (D := (dC, dI)) (ci := 9) (v := .int (nI ng)) (C := R_Board) (T := F_Board) (N := 19) hx hb hts i_Board hown hK hP 0 rfl rfl 7 (by decide) (hts _ k_380) (fun _ h9 => h9) rfl d_Board_step_13 ?_
    refine nv_icmp_ge (tgt := 42) hx hb (by omega) (by omega) d_Board_step_16 (by decide) (fun c_1 => ?_) (fun c_1 => ?_)
    · have hq : nx = F := by rw [← hr, bd_nx_u, if_neg (by omega)]
      subst hq
      exact kx H locs ls hP hD hS (lv_sub hl [1] rfl)
    · refine lv_aload_n hx hb d_Board_step_19 rfl (lv_at hl 1 rfl) ?_
      refine va_get (D := (dC, dI)) (ci := 9) (v := .ref a_next) (C := R_Board) (T := F_Board) (N := 19) hx hb hts i_Board hown hK hP 0 rfl rfl 16 (by decide) (hts _ k_389) (fun _ h9 => h9) rfl d_Board_step_20 ?_
      refine lv_iload_n hx hb d_Board_step_23 rfl (lv_at hl 0 rfl) ?_
      refine lv_aload_n hx hb d_Board_step_24 rfl (lv_at hl 1 rfl) ?_
      refine va_get (D := (dC, dI)) (ci := 9) (v := .ref a_value) (C := R_Board) (T := F_Board) (N := 19) hx hb hts i_Board hown hK hP 0 rfl rfl 10 (by decide) (hts _ k_383) (fun _ h9 => h9) rfl d_Board_step_25 ?_
      refine lv_aload_n hx hb d_Board_step_28 rfl (lv_at hl 1 rfl) ?_
      refine va_get (D := (dC, dI)) (ci := 9) (v := .ref a_firstIn) (C := R_Board) (T := F_Board) (N := 19) hx hb hts i_Board hown hK hP 0 rfl rfl 5 (by decide) (hts _ k_378) (fun _ h9 => h9) rfl d_Board_step_29 ?_
      refine lv_iload_n hx hb d_Board_step_32 rfl (lv_at hl 0 rfl) ?_
      refine nv_iald hx hb hK hP 2 1 rfl rfl (by omega) (by decide) d_Board_step_33 ?_
      refine nv_zald hx hb hK hP 4 3 rfl rfl (hfn _ (by omega)) (by decide) d_Board_step_34 ?_
      refine nv_zastB (x := va (fi i)) hx hb hK hP hD hS 6 3 rfl rfl (by omega) (by decide) d_Board_step_35 (fun H locs hP hD hS => ?_)
      have hP : va_P (dC, dI) cl [(qd, .inr (9, [.ref qc, f1, f2, f3, .ref a_isDff, .ref a_firstIn, .ref a_secondIn, .int (nI ng), f8, .int (nI fg), .ref a_value, f11, f12, .ref a_order, .int (nI no), f15, .ref a_next, .int (nI tc), f18])), (a_isDff, .inl (cZ, 300, .inl (bF isd))), (a_firstIn, .inl (cI, 300, .inl (nF fi))), (a_secondIn, .inl (cI, 300, .inl (nF si))), (a_value, .inl (cZ, 430, .inl (bF va))), (a_order, .inl (cI, 300, .inl (nF od))), (a_next, .inl (cZ, 300, .inl (bF (va_up nx i (va (fi i))))))] H := hP
      have hD : va_D A [(qd, .inr (9, [.ref qc, f1, f2, f3, .ref a_isDff, .ref a_firstIn, .ref a_secondIn, .int (nI ng), f8, .int (nI fg), .ref a_value, f11, f12, .ref a_order, .int (nI no), f15, .ref a_next, .int (nI tc), f18])), (a_isDff, .inl (cZ, 300, .inl (bF isd))), (a_firstIn, .inl (cI, 300, .inl (nF fi))), (a_secondIn, .inl (cI, 300, .inl (nF si))), (a_value, .inl (cZ, 430, .inl (bF va))), (a_order, .inl (cI, 300, .inl (nF od))), (a_next, .inl (cZ, 300, .inl (bF (va_up nx i (va (fi i))))))] := hD
      refine lv_iinc (v := nI (i + 1)) (lv' := [(1, .int (nI (i + 1))), (0, .ref qd)]) hx hb d_Board_step_36 hl (k := 0) rfl (nI_1 _) (by decide) rfl (fun ls hl => ?_)
      refine lv_goto (tgt := 11) hx hb d_Board_step_39 (by decide) ?_
      exact ih (i + 1) _ H locs ls (by omega) (by omega) (by rw [← hr, bd_nx_u fi va ng i, if_pos (by omega)]) hP hD hS (lv_sub hl [0, 1] rfl)
set_option maxHeartbeats 4000000 in
set_option maxRecDepth 100000 in
theorem lp_Board_step2W {p : Program} {l : Launch} {e : Env} {s : State} {m : MethodId} {args : Array Value} {below : List Frame} {meth : Method} {c : Code} {Q : State → Prop} {A : Nat → Prop} {dC : Nat → ClassId} {dI : Nat → Nat → Nat} {cB cI cL cZ cC cO : ClassId} {qd qc a_isDff a_firstIn a_secondIn a_value a_order a_next : Nat}{f1 f2 f3 f8 f11 f12 f15 : Value} {f18 : Value} {fi si od : Nat → Nat} {isd : Nat → Bool} {fg no ng tc : Nat} {nx : Nat → Bool} {F : (Nat → Bool) × Nat} (hng : ng ≤ 300) (hno : no ≤ 300) (hgd : ∀ i, i < no → od i < 300 ∧ fi (od i) < 430 ∧ si (od i) < 430) (hfn : ∀ g, g < ng → fi g < 430) (hfg : fg ≤ 130) (hx : p.tables.exec = Jvm.exec) (hb : c.code = b_Board_step) (hml : c.maxLocals = 3) (hown : s.vm.findClass R_Board = some m.cls) (hts : ∀ w ∈ tb, w.before args s = true) (hA : ∀ q, s.heap.size ≤ q → A q) (hF : stF A s) (hK : va_K (dC, dI) cl [(cB, .byte), (cI, .int), (cL, .long), (cZ, .boolean), (cC, .char), (cO, .object "java/lang/Object")] s)
    (kx : ∀  (H : Heap) (locs : List Loc) (ls : Array Slot), va_P (dC, dI) cl [(qd, .inr (9, [.ref qc, f1, f2, f3, .ref a_isDff, .ref a_firstIn, .ref a_secondIn, .int (nI ng), f8, .int (nI fg), .ref a_value, f11, f12, .ref a_order, .int (nI no), f15, .ref a_next, .int (nI tc), f18])), (a_isDff, .inl (cZ, 300, .inl (bF isd))), (a_firstIn, .inl (cI, 300, .inl (nF fi))), (a_secondIn, .inl (cI, 300, .inl (nF si))), (a_value, .inl (cZ, 430, .inl (bF F.1))), (a_order, .inl (cI, 300, .inl (nF od))), (a_next, .inl (cZ, 300, .inl (bF nx)))] H → va_D A [(qd, .inr (9, [.ref qc, f1, f2, f3, .ref a_isDff, .ref a_firstIn, .ref a_secondIn, .int (nI ng), f8, .int (nI fg), .ref a_value, f11, f12, .ref a_order, .int (nI no), f15, .ref a_next, .int (nI tc), f18])), (a_isDff, .inl (cZ, 300, .inl (bF isd))), (a_firstIn, .inl (cI, 300, .inl (nF fi))), (a_secondIn, .inl (cI, 300, .inl (nF si))), (a_value, .inl (cZ, 430, .inl (bF F.1))), (a_order, .inl (cI, 300, .inl (nF od))), (a_next, .inl (cZ, 300, .inl (bF nx)))] → va_S A s.heap H locs → lv_has ls 3 [(1, .int (nI F.2)), (0, .ref qd)] → W p l e (headSpec w_Board_step { frames := 1, cells := 0, slots := 0, locals := 30 }).room s m args below meth c H locs 0 0 Q (F0 m 109 ls [])) :
    ∀ (k : Nat) (i : Nat) (va : Nat → Bool) (ch : Nat) (H : Heap) (locs : List Loc) (ls : Array Slot), ng < i + k → i ≤ ng → bd_tk isd nx fg (ng - i) i (va, ch) = F → va_P (dC, dI) cl [(qd, .inr (9, [.ref qc, f1, f2, f3, .ref a_isDff, .ref a_firstIn, .ref a_secondIn, .int (nI ng), f8, .int (nI fg), .ref a_value, f11, f12, .ref a_order, .int (nI no), f15, .ref a_next, .int (nI tc), f18])), (a_isDff, .inl (cZ, 300, .inl (bF isd))), (a_firstIn, .inl (cI, 300, .inl (nF fi))), (a_secondIn, .inl (cI, 300, .inl (nF si))), (a_value, .inl (cZ, 430, .inl (bF va))), (a_order, .inl (cI, 300, .inl (nF od))), (a_next, .inl (cZ, 300, .inl (bF nx)))] H → va_D A [(qd, .inr (9, [.ref qc, f1, f2, f3, .ref a_isDff, .ref a_firstIn, .ref a_secondIn, .int (nI ng), f8, .int (nI fg), .ref a_value, f11, f12, .ref a_order, .int (nI no), f15, .ref a_next, .int (nI tc), f18])), (a_isDff, .inl (cZ, 300, .inl (bF isd))), (a_firstIn, .inl (cI, 300, .inl (nF fi))), (a_secondIn, .inl (cI, 300, .inl (nF si))), (a_value, .inl (cZ, 430, .inl (bF va))), (a_order, .inl (cI, 300, .inl (nF od))), (a_next, .inl (cZ, 300, .inl (bF nx)))] → va_S A s.heap H locs → lv_has ls 3 [(2, .int (nI i)), (1, .int (nI ch)), (0, .ref qd)] → W p l e (headSpec w_Board_step { frames := 1, cells := 0, slots := 0, locals := 30 }).room s m args below meth c H locs 0 0 Q (F0 m 46 ls []) := by
  intro k
  induction k with
  | zero =>
    intro i va ch H locs ls hk hi hr hP hD hS hl
    exfalso; omega
  | succ k ih =>
    intro i va ch H locs ls hk hi hr hP hD hS hl
    refine lv_iload_n hx hb d_Board_step_46 rfl (lv_at hl 0 rfl) ?_
    refine lv_aload_n hx hb d_Board_step_47 rfl (lv_at hl 2 rfl) ?_
    refine va_get (D := (dC, dI)) (ci := 9) (v := .int (nI ng)) (C := R_Board) (T := F_Board) (N := 19) hx hb hts i_Board hown hK hP 0 rfl rfl 7 (by decide) (hts _ k_380) (fun _ h9 => h9) rfl d_Board_step_48 ?_
    refine nv_icmp_ge (tgt := 109) hx hb (by omega) (by omega) d_Board_step_51 (by decide) (fun c_1 => ?_) (fun c_1 => ?_)
    · have hq : (va, ch) = F := by rw [← hr, bd_tk_u, if_neg (by omega)]
      subst hq
      exact kx H locs ls hP hD hS (lv_sub hl [1, 2] rfl)
    · refine lv_aload_n hx hb d_Board_step_54 rfl (lv_at hl 2 rfl) ?_
      refine va_get (D := (dC, dI)) (ci := 9) (v := .ref a_isDff) (C := R_Board) (T := F_Board) (N := 19) hx hb hts i_Board hown hK hP 0 rfl rfl 4 (by decide) (hts _ k_377) (fun _ h9 => h9) rfl d_Board_step_55 ?_
      refine lv_iload_n hx hb d_Board_step_58 rfl (lv_at hl 0 rfl) ?_
      refine nv_zald hx hb hK hP 1 3 rfl rfl (by omega) (by decide) d_Board_step_59 ?_
      refine nv_bif_eq (tgt := 103) hx hb d_Board_step_60 (by decide) (fun c_2 => ?_) (fun c_2 => ?_)
      · refine lv_iinc (v := nI (i + 1)) (lv' := [(2, .int (nI (i + 1))), (1, .int (nI ch)), (0, .ref qd)]) hx hb d_Board_step_103 hl (k := 0) rfl (nI_1 _) (by decide) rfl (fun ls hl => ?_)
        refine lv_goto (tgt := 46) hx hb d_Board_step_106 (by decide) ?_
        exact ih (i + 1) (va) (ch) H locs ls (by omega) (by omega) (by rw [← hr, bd_tk_u isd nx fg ng i, if_pos (by omega), if_neg (fun q9 => by first | exact absurd q9.1 (by rw [c_2]; decide) | exact q9.2 c_2)]) hP hD hS (lv_sub hl [0, 1, 2] rfl)
      · refine lv_aload_n hx hb d_Board_step_63 rfl (lv_at hl 2 rfl) ?_
        refine va_get (D := (dC, dI)) (ci := 9) (v := .ref a_value) (C := R_Board) (T := F_Board) (N := 19) hx hb hts i_Board hown hK hP 0 rfl rfl 10 (by decide) (hts _ k_383) (fun _ h9 => h9) rfl d_Board_step_64 ?_
        refine lv_aload_n hx hb d_Board_step_67 rfl (lv_at hl 2 rfl) ?_
        refine va_get (D := (dC, dI)) (ci := 9) (v := .int (nI fg)) (C := R_Board) (T := F_Board) (N := 19) hx hb hts i_Board hown hK hP 0 rfl rfl 9 (by decide) (hts _ k_382) (fun _ h9 => h9) rfl d_Board_step_68 ?_
        refine lv_iload_n hx hb d_Board_step_71 rfl (lv_at hl 0 rfl) ?_
        refine nv_iadd hx hb d_Board_step_72 ?_
        refine nv_zald hx hb hK hP 4 3 rfl rfl (by omega) (by decide) d_Board_step_73 ?_
        refine lv_aload_n hx hb d_Board_step_74 rfl (lv_at hl 2 rfl) ?_
        refine va_get (D := (dC, dI)) (ci := 9) (v := .ref a_next) (C := R_Board) (T := F_Board) (N := 19) hx hb hts i_Board hown hK hP 0 rfl rfl 16 (by decide) (hts _ k_389) (fun _ h9 => h9) rfl d_Board_step_75 ?_
        refine lv_iload_n hx hb d_Board_step_78 rfl (lv_at hl 0 rfl) ?_
        refine nv_zald hx hb hK hP 6 3 rfl rfl (by omega) (by decide) d_Board_step_79 ?_
        refine nv_bicmp_eq (tgt := 103) hx hb d_Board_step_80 (by decide) (fun c_3 => ?_) (fun c_3 => ?_)
        · refine lv_iinc (v := nI (i + 1)) (lv' := [(2, .int (nI (i + 1))), (1, .int (nI ch)), (0, .ref qd)]) hx hb d_Board_step_103 hl (k := 0) rfl (nI_1 _) (by decide) rfl (fun ls hl => ?_)
          refine lv_goto (tgt := 46) hx hb d_Board_step_106 (by decide) ?_
          exact ih (i + 1) (va) (ch) H locs ls (by omega) (by omega) (by rw [← hr, bd_tk_u isd nx fg ng i, if_pos (by omega), if_neg (fun q9 => by first | exact absurd q9.1 (by rw [c_3]; decide) | exact q9.2 c_3)]) hP hD hS (lv_sub hl [0, 1, 2] rfl)
        · refine lv_aload_n hx hb d_Board_step_83 rfl (lv_at hl 2 rfl) ?_
          refine va_get (D := (dC, dI)) (ci := 9) (v := .ref a_value) (C := R_Board) (T := F_Board) (N := 19) hx hb hts i_Board hown hK hP 0 rfl rfl 10 (by decide) (hts _ k_383) (fun _ h9 => h9) rfl d_Board_step_84 ?_
          refine lv_aload_n hx hb d_Board_step_87 rfl (lv_at hl 2 rfl) ?_
          refine va_get (D := (dC, dI)) (ci := 9) (v := .int (nI fg)) (C := R_Board) (T := F_Board) (N := 19) hx hb hts i_Board hown hK hP 0 rfl rfl 9 (by decide) (hts _ k_382) (fun _ h9 => h9) rfl d_Board_step_88 ?_
          refine lv_iload_n hx hb d_Board_step_91 rfl (lv_at hl 0 rfl) ?_
          refine nv_iadd hx hb d_Board_step_92 ?_
          refine lv_aload_n hx hb d_Board_step_93 rfl (lv_at hl 2 rfl) ?_
          refine va_get (D := (dC, dI)) (ci := 9) (v := .ref a_next) (C := R_Board) (T := F_Board) (N := 19) hx hb hts i_Board hown hK hP 0 rfl rfl 16 (by decide) (hts _ k_389) (fun _ h9 => h9) rfl d_Board_step_94 ?_
          refine lv_iload_n hx hb d_Board_step_97 rfl (lv_at hl 0 rfl) ?_
          refine nv_zald hx hb hK hP 6 3 rfl rfl (by omega) (by decide) d_Board_step_98 ?_
          refine nv_zastB (x := nx i) hx hb hK hP hD hS 4 3 rfl rfl (by omega) (by decide) d_Board_step_99 (fun H locs hP hD hS => ?_)
          have hP : va_P (dC, dI) cl [(qd, .inr (9, [.ref qc, f1, f2, f3, .ref a_isDff, .ref a_firstIn, .ref a_secondIn, .int (nI ng), f8, .int (nI fg), .ref a_value, f11, f12, .ref a_order, .int (nI no), f15, .ref a_next, .int (nI tc), f18])), (a_isDff, .inl (cZ, 300, .inl (bF isd))), (a_firstIn, .inl (cI, 300, .inl (nF fi))), (a_secondIn, .inl (cI, 300, .inl (nF si))), (a_value, .inl (cZ, 430, .inl (bF (va_up va (fg + i) (nx i))))), (a_order, .inl (cI, 300, .inl (nF od))), (a_next, .inl (cZ, 300, .inl (bF nx)))] H := hP
          have hD : va_D A [(qd, .inr (9, [.ref qc, f1, f2, f3, .ref a_isDff, .ref a_firstIn, .ref a_secondIn, .int (nI ng), f8, .int (nI fg), .ref a_value, f11, f12, .ref a_order, .int (nI no), f15, .ref a_next, .int (nI tc), f18])), (a_isDff, .inl (cZ, 300, .inl (bF isd))), (a_firstIn, .inl (cI, 300, .inl (nF fi))), (a_secondIn, .inl (cI, 300, .inl (nF si))), (a_value, .inl (cZ, 430, .inl (bF (va_up va (fg + i) (nx i))))), (a_order, .inl (cI, 300, .inl (nF od))), (a_next, .inl (cZ, 300, .inl (bF nx)))] := hD
          refine lv_iinc (v := nI (ch + 1)) (lv' := [(1, .int (nI (ch + 1))), (2, .int (nI i)), (0, .ref qd)]) hx hb d_Board_step_100 hl (k := 1) rfl (nI_1 _) (by decide) rfl (fun ls hl => ?_)
          refine lv_iinc (v := nI (i + 1)) (lv' := [(2, .int (nI (i + 1))), (1, .int (nI (ch + 1))), (0, .ref qd)]) hx hb d_Board_step_103 hl (k := 1) rfl (nI_1 _) (by decide) rfl (fun ls hl => ?_)
          refine lv_goto (tgt := 46) hx hb d_Board_step_106 (by decide) ?_
          exact ih (i + 1) (va_up va (fg + i) (nx i)) (ch + 1) H locs ls (by omega) (by omega) (by rw [← hr, bd_tk_u isd nx fg ng i, if_pos (by omega), if_pos ⟨c_2, c_3⟩]) hP hD hS (lv_sub hl [0, 1, 2] rfl)
set_option maxHeartbeats 4000000 in
set_option maxRecDepth 100000 in
/-- step() -/
theorem c_Board_stepW (l : Launch) (dC : Nat → ClassId) (dI : Nat → Nat → Nat) (cB cI cL cZ cC cO : ClassId) {qd qc a_isDff a_firstIn a_secondIn a_value a_order a_next : Nat}{f1 f2 f3 f8 f11 f12 f15 : Value} {f18 : Value} (fi si od : Nat → Nat) (isd va nx : Nat → Bool) (fg no ng tc : Nat) (sz : Nat) (hng : ng ≤ 300) (hno : no ≤ 300) (hgd : ∀ i, i < no → od i < 300 ∧ fi (od i) < 430 ∧ si (od i) < 430) (hfn : ∀ g, g < ng → fi g < 430) (hfg : fg ≤ 130) : Met l y_Board_step w_Board_step ({ frames := 1, cells := 0, slots := 0, locals := 30 }) (va_Pc [.ref qd] (wB (dC, dI) cl [(cB, .byte), (cI, .int), (cL, .long), (cZ, .boolean), (cC, .char), (cO, .object "java/lang/Object")] sz [(qd, .inr (9, [.ref qc, f1, f2, f3, .ref a_isDff, .ref a_firstIn, .ref a_secondIn, .int (nI ng), f8, .int (nI fg), .ref a_value, f11, f12, .ref a_order, .int (nI no), f15, .ref a_next, .int (nI tc), f18])), (a_isDff, .inl (cZ, 300, .inl (bF isd))), (a_firstIn, .inl (cI, 300, .inl (nF fi))), (a_secondIn, .inl (cI, 300, .inl (nF si))), (a_value, .inl (cZ, 430, .inl (bF va))), (a_order, .inl (cI, 300, .inl (nF od))), (a_next, .inl (cZ, 300, .inl (bF nx)))])) (va_Qi (fun (r : Int32) (u : ((Nat → Bool) × Nat) × (Nat → Bool)) => r = nI (bd_tk isd (bd_nx fi va ng 0 nx) fg ng 0 (va, 0)).2 ∧ u = ((bd_set od fi si fg no 0 ((bd_tk isd (bd_nx fi va ng 0 nx) fg ng 0 (va, 0)).1, 0)), (bd_nx fi va ng 0 nx))) (fun u t => wA (dC, dI) cl [(cB, .byte), (cI, .int), (cL, .long), (cZ, .boolean), (cC, .char), (cO, .object "java/lang/Object")] (va_A [(qd, .inr (9, [.ref qc, f1, f2, f3, .ref a_isDff, .ref a_firstIn, .ref a_secondIn, .int (nI ng), f8, .int (nI fg), .ref a_value, f11, f12, .ref a_order, .int (nI no), f15, .ref a_next, .int (nI tc), f18])), (a_isDff, .inl (cZ, 300, .inl (bF isd))), (a_firstIn, .inl (cI, 300, .inl (nF fi))), (a_secondIn, .inl (cI, 300, .inl (nF si))), (a_value, .inl (cZ, 430, .inl (bF va))), (a_order, .inl (cI, 300, .inl (nF od))), (a_next, .inl (cZ, 300, .inl (bF nx)))] sz) [(qd, .inr (9, [.ref qc, f1, f2, f3, .ref a_isDff, .ref a_firstIn, .ref a_secondIn, .int (nI ng), f8, .int (nI fg), .ref a_value, f11, f12, .ref a_order, .int (nI no), f15, .ref a_next, .int (nI (tc + 1)), .int (nI u.1.2)])), (a_isDff, .inl (cZ, 300, .inl (bF isd))), (a_firstIn, .inl (cI, 300, .inl (nF fi))), (a_secondIn, .inl (cI, 300, .inl (nF si))), (a_value, .inl (cZ, 430, .inl (bF u.1.1))), (a_order, .inl (cI, 300, .inl (nF od))), (a_next, .inl (cZ, 300, .inl (bF u.2)))] t) (va_A [(qd, .inr (9, [.ref qc, f1, f2, f3, .ref a_isDff, .ref a_firstIn, .ref a_secondIn, .int (nI ng), f8, .int (nI fg), .ref a_value, f11, f12, .ref a_order, .int (nI no), f15, .ref a_next, .int (nI tc), f18])), (a_isDff, .inl (cZ, 300, .inl (bF isd))), (a_firstIn, .inl (cI, 300, .inl (nF fi))), (a_secondIn, .inl (cI, 300, .inl (nF si))), (a_value, .inl (cZ, 430, .inl (bF va))), (a_order, .inl (cI, 300, .inl (nF od))), (a_next, .inl (cZ, 300, .inl (bF nx)))] sz)) 0 0 (va_A [(qd, .inr (9, [.ref qc, f1, f2, f3, .ref a_isDff, .ref a_firstIn, .ref a_secondIn, .int (nI ng), f8, .int (nI fg), .ref a_value, f11, f12, .ref a_order, .int (nI no), f15, .ref a_next, .int (nI tc), f18])), (a_isDff, .inl (cZ, 300, .inl (bF isd))), (a_firstIn, .inl (cI, 300, .inl (nF fi))), (a_secondIn, .inl (cI, 300, .inl (nF si))), (a_value, .inl (cZ, 430, .inl (bF va))), (a_order, .inl (cI, 300, .inl (nF od))), (a_next, .inl (cZ, 300, .inl (bF nx)))] sz) := by
  refine Met.ofW (cc := b_Board_step) (maxL := 3) (ret := (some ClassFile.FieldType.int)) (by decide) rfl ?_
  intro p e s m args below meth c s₁ B hml hv
  obtain ⟨rfl, hsz, hP, hK, hD0, hF⟩ := hv
  have hx := B.exec
  have hb := B.bytes
  have hr := B.returns
  have hts := atoms_spec (ws := w_Board_step) B.pre
  have hts : ∀ w ∈ tb, w.before _ s = true := fun w h => hts w (List.mem_cons_of_mem _ h)
  have hown : s.vm.findClass R_Board = some m.cls := findClass_of_methodNamed B.named
  have hlocks := B.notSynchronized
  subst hsz
  have hD := hD0.self (sz := s.heap.size)
  generalize hAe : va_A [(qd, .inr (9, [.ref qc, f1, f2, f3, .ref a_isDff, .ref a_firstIn, .ref a_secondIn, .int (nI ng), f8, .int (nI fg), .ref a_value, f11, f12, .ref a_order, .int (nI no), f15, .ref a_next, .int (nI tc), f18])), (a_isDff, .inl (cZ, 300, .inl (bF isd))), (a_firstIn, .inl (cI, 300, .inl (nF fi))), (a_secondIn, .inl (cI, 300, .inl (nF si))), (a_value, .inl (cZ, 430, .inl (bF va))), (a_order, .inl (cI, 300, .inl (nF od))), (a_next, .inl (cZ, 300, .inl (bF nx)))] s.heap.size = A at hD hF ⊢
  have hA : ∀ q : Nat, s.heap.size ≤ q → A q := fun q h => by rw [← hAe]; exact Or.inr h
  have hS : va_S A s.heap s.heap [] := va_S.rf
  have hP : va_P (dC, dI) cl [(qd, .inr (9, [.ref qc, f1, f2, f3, .ref a_isDff, .ref a_firstIn, .ref a_secondIn, .int (nI ng), f8, .int (nI fg), .ref a_value, f11, f12, .ref a_order, .int (nI no), f15, .ref a_next, .int (nI tc), f18])), (a_isDff, .inl (cZ, 300, .inl (bF isd))), (a_firstIn, .inl (cI, 300, .inl (nF fi))), (a_secondIn, .inl (cI, 300, .inl (nF si))), (a_value, .inl (cZ, 430, .inl (bF va))), (a_order, .inl (cI, 300, .inl (nF od))), (a_next, .inl (cZ, 300, .inl (bF nx)))] s.heap := hP
  have hl := lv_entry ([.ref qd]) (n := 3) (Nat.le_of_ble_eq_true rfl)
  rw [lg_entry_eq]
  generalize (lg_sl ([.ref qd]) ++ List.replicate (3 - (lg_sl ([.ref qd])).length) Slot.unset).toArray = ls at hl ⊢
  have hl : lv_has ls 3 [(0, .ref qd)] := hl
  refine lv_aload_n hx hb d_Board_step_0 rfl (lv_at hl 0 rfl) ?_
  refine va_get (D := (dC, dI)) (ci := 9) (v := .ref qc) (C := R_Board) (T := F_Board) (N := 19) hx hb hts i_Board hown hK hP 0 rfl rfl 0 (by decide) (hts _ k_373) (fun _ h9 => h9) rfl d_Board_step_1 ?_
  refine lv_ifnonnull (tgt := 9) hx hb d_Board_step_4 (by decide) ?_
  refine lv_iconst (v := nI 0) hx hb d_Board_step_9 (by decide) ?_
  refine lv_istore_n (lv' := [(1, .int (nI 0)), (0, .ref qd)]) hx hb d_Board_step_10 rfl hl (by decide) rfl (fun ls hl => ?_)
  refine lp_Board_step1W (F := (bd_nx fi va ng 0 nx)) hng hno hgd hfn hfg hx hb hml hown hts hA hF hK (fun H locs ls hP hD hS hl => ?_) (ng + 1) 0 nx _ _ ls (by omega) (by omega) rfl hP hD hS (lv_sub hl [0, 1] rfl)
  refine lv_iconst (v := nI 0) hx hb d_Board_step_42 (by decide) ?_
  refine lv_istore_n (lv' := [(1, .int (nI 0)), (0, .ref qd)]) hx hb d_Board_step_43 rfl hl (by decide) rfl (fun ls hl => ?_)
  refine lv_iconst (v := nI 0) hx hb d_Board_step_44 (by decide) ?_
  refine lv_istore_n (lv' := [(2, .int (nI 0)), (1, .int (nI 0)), (0, .ref qd)]) hx hb d_Board_step_45 rfl hl (by decide) rfl (fun ls hl => ?_)
  refine lp_Board_step2W (F := (bd_tk isd (bd_nx fi va ng 0 nx) fg ng 0 (va, 0))) hng hno hgd hfn hfg hx hb hml hown hts hA hF hK (fun H locs ls hP hD hS hl => ?_) (ng + 1) 0 va 0 _ _ ls (by omega) (by omega) rfl hP hD hS (lv_sub hl [0, 1, 2] rfl)
  refine lv_aload_n hx hb d_Board_step_109 rfl (lv_at hl 1 rfl) ?_
  refine lv_dup hx hb d_Board_step_110 rfl ?_
  refine va_get (D := (dC, dI)) (ci := 9) (v := .int (nI tc)) (C := R_Board) (T := F_Board) (N := 19) hx hb hts i_Board hown hK hP 0 rfl rfl 17 (by decide) (hts _ k_390) (fun _ h9 => h9) rfl d_Board_step_111 ?_
  refine lv_iconst (v := nI 1) hx hb d_Board_step_114 (by decide) ?_
  refine nv_iadd hx hb d_Board_step_115 ?_
  refine va_put (D := (dC, dI)) (ci := 9) (v := .int (nI (tc + 1))) (ty := .int) (C := R_Board) (T := F_Board) (N := 19) hx hb hts i_Board t_Board t_Board_ok n_Board hown hK hP hD hS 0 rfl rfl 17 (by decide) (hts _ k_390) (fun _ h9 => h9) rfl (by decide +kernel) rfl rfl (Nat.le_of_ble_eq_true rfl) d_Board_step_116 (fun H locs hP hD hS => ?_)
  have hP : va_P (dC, dI) cl [(qd, .inr (9, [.ref qc, f1, f2, f3, .ref a_isDff, .ref a_firstIn, .ref a_secondIn, .int (nI ng), f8, .int (nI fg), .ref a_value, f11, f12, .ref a_order, .int (nI no), f15, .ref a_next, .int (nI (tc + 1)), f18])), (a_isDff, .inl (cZ, 300, .inl (bF isd))), (a_firstIn, .inl (cI, 300, .inl (nF fi))), (a_secondIn, .inl (cI, 300, .inl (nF si))), (a_value, .inl (cZ, 430, .inl (bF ((bd_tk isd (bd_nx fi va ng 0 nx) fg ng 0 (va, 0)).1)))), (a_order, .inl (cI, 300, .inl (nF od))), (a_next, .inl (cZ, 300, .inl (bF (bd_nx fi va ng 0 nx))))] H := hP
  have hD : va_D A [(qd, .inr (9, [.ref qc, f1, f2, f3, .ref a_isDff, .ref a_firstIn, .ref a_secondIn, .int (nI ng), f8, .int (nI fg), .ref a_value, f11, f12, .ref a_order, .int (nI no), f15, .ref a_next, .int (nI (tc + 1)), f18])), (a_isDff, .inl (cZ, 300, .inl (bF isd))), (a_firstIn, .inl (cI, 300, .inl (nF fi))), (a_secondIn, .inl (cI, 300, .inl (nF si))), (a_value, .inl (cZ, 430, .inl (bF ((bd_tk isd (bd_nx fi va ng 0 nx) fg ng 0 (va, 0)).1)))), (a_order, .inl (cI, 300, .inl (nF od))), (a_next, .inl (cZ, 300, .inl (bF (bd_nx fi va ng 0 nx))))] := hD
  refine lv_aload_n hx hb d_Board_step_119 rfl (lv_at hl 1 rfl) ?_
  refine wc_v (wc := [(qd, .inr (9, [.ref qc, f1, f2, f3, .ref a_isDff, .ref a_firstIn, .ref a_secondIn, .int (nI ng), f8, .int (nI fg), .ref a_value, f11, f12, .ref a_order, .int (nI no), f15, .ref a_next, .int (nI (tc + 1)), f18])), (a_firstIn, .inl (cI, 300, .inl (nF fi))), (a_secondIn, .inl (cI, 300, .inl (nF si))), (a_value, .inl (cZ, 430, .inl (bF ((bd_tk isd (bd_nx fi va ng 0 nx) fg ng 0 (va, 0)).1)))), (a_order, .inl (cI, 300, .inl (nF od)))]) (wr := [(a_isDff, .inl (cZ, 300, .inl (bF isd))), (a_next, .inl (cZ, 300, .inl (bF (bd_nx fi va ng 0 nx))))]) (va_runV (As := []) (rest := []) ⟨hx, hb, hml, hown, hts⟩ (c_Board_settleW l dC dI cB cI cL cZ cC cO fi si od (bd_tk isd (bd_nx fi va ng 0 nx) fg ng 0 (va, 0)).1 fg no _ hno hgd hfg) (cwV 0 hts (good_V k_822 k_824 s_Board_settle k_18 k_825) rfl rfl rfl (by decide +kernel) ⟨Nat.le_of_ble_eq_true rfl, Nat.le_of_ble_eq_true rfl⟩) (wc_preV (k0 := 0) (ci := 9) (r := (R_Board, F_Board, 19)) hK hP hD hS hA hF [0, 2, 3, 4, 5] (by decide) rfl rfl rfl) rfl rfl hl.1 rfl (lv_room (Nat.le_of_ble_eq_true rfl)) d_Board_step_120 ⟨Nat.le_of_ble_eq_true rfl, Nat.le_of_ble_eq_true rfl⟩) hP hD hS hA [0, 2, 3, 4, 5] [1, 6] rfl rfl (by decide) (by decide) (fun u H locs w_1 hP hD hS => ?_)
  have hP : va_P (dC, dI) cl [(a_isDff, .inl (cZ, 300, .inl (bF isd))), (a_next, .inl (cZ, 300, .inl (bF (bd_nx fi va ng 0 nx)))), (qd, .inr (9, [.ref qc, f1, f2, f3, .ref a_isDff, .ref a_firstIn, .ref a_secondIn, .int (nI ng), f8, .int (nI fg), .ref a_value, f11, f12, .ref a_order, .int (nI no), f15, .ref a_next, .int (nI (tc + 1)), .int (nI ((u, 0).1.2))])), (a_firstIn, .inl (cI, 300, .inl (nF fi))), (a_secondIn, .inl (cI, 300, .inl (nF si))), (a_value, .inl (cZ, 430, .inl (bF u.1))), (a_order, .inl (cI, 300, .inl (nF od)))] H := hP
  have hD : va_D A [(a_isDff, .inl (cZ, 300, .inl (bF isd))), (a_next, .inl (cZ, 300, .inl (bF (bd_nx fi va ng 0 nx)))), (qd, .inr (9, [.ref qc, f1, f2, f3, .ref a_isDff, .ref a_firstIn, .ref a_secondIn, .int (nI ng), f8, .int (nI fg), .ref a_value, f11, f12, .ref a_order, .int (nI no), f15, .ref a_next, .int (nI (tc + 1)), .int (nI ((u, 0).1.2))])), (a_firstIn, .inl (cI, 300, .inl (nF fi))), (a_secondIn, .inl (cI, 300, .inl (nF si))), (a_value, .inl (cZ, 430, .inl (bF u.1))), (a_order, .inl (cI, 300, .inl (nF od)))] := hD
  subst w_1
  have hP : va_P (dC, dI) cl [(a_isDff, .inl (cZ, 300, .inl (bF isd))), (a_next, .inl (cZ, 300, .inl (bF (bd_nx fi va ng 0 nx)))), (qd, .inr (9, [.ref qc, f1, f2, f3, .ref a_isDff, .ref a_firstIn, .ref a_secondIn, .int (nI ng), f8, .int (nI fg), .ref a_value, f11, f12, .ref a_order, .int (nI no), f15, .ref a_next, .int (nI (tc + 1)), .int (nI ((bd_set od fi si fg no 0 ((bd_tk isd (bd_nx fi va ng 0 nx) fg ng 0 (va, 0)).1, 0)).2))])), (a_firstIn, .inl (cI, 300, .inl (nF fi))), (a_secondIn, .inl (cI, 300, .inl (nF si))), (a_value, .inl (cZ, 430, .inl (bF ((bd_set od fi si fg no 0 ((bd_tk isd (bd_nx fi va ng 0 nx) fg ng 0 (va, 0)).1, 0)).1)))), (a_order, .inl (cI, 300, .inl (nF od)))] H := hP
  have hD : va_D A [(a_isDff, .inl (cZ, 300, .inl (bF isd))), (a_next, .inl (cZ, 300, .inl (bF (bd_nx fi va ng 0 nx)))), (qd, .inr (9, [.ref qc, f1, f2, f3, .ref a_isDff, .ref a_firstIn, .ref a_secondIn, .int (nI ng), f8, .int (nI fg), .ref a_value, f11, f12, .ref a_order, .int (nI no), f15, .ref a_next, .int (nI (tc + 1)), .int (nI ((bd_set od fi si fg no 0 ((bd_tk isd (bd_nx fi va ng 0 nx) fg ng 0 (va, 0)).1, 0)).2))])), (a_firstIn, .inl (cI, 300, .inl (nF fi))), (a_secondIn, .inl (cI, 300, .inl (nF si))), (a_value, .inl (cZ, 430, .inl (bF ((bd_set od fi si fg no 0 ((bd_tk isd (bd_nx fi va ng 0 nx) fg ng 0 (va, 0)).1, 0)).1)))), (a_order, .inl (cI, 300, .inl (nF od)))] := hD
  refine lv_iload_n hx hb d_Board_step_123 rfl (lv_at hl 0 rfl) ?_
  exact wr_i hx hb hr hlocks ((bd_set od fi si fg no 0 ((bd_tk isd (bd_nx fi va ng 0 nx) fg ng 0 (va, 0)).1, 0)), (bd_nx fi va ng 0 nx)) ⟨rfl, rfl⟩ hK (hP.sub [2, 0, 3, 4, 5, 6, 1] rfl) (hD.sub [2, 0, 3, 4, 5, 6, 1] (by decide) rfl) hS d_Board_step_124
