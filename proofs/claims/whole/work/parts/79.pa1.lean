theorem wt_lt {fk : Nat → Int32} {a : Nat} {x : Int32} (h : wt_ok fk a x = true) : a < 1000 := by
  unfold wt_ok at h; simp at h; exact h.2
theorem wt_T {fk fp : Nat → Int32} {a : Nat} {x : Int32} {v0 v1 : Value} (h : wt_ok fk a x = true) : wt_to fk fp a x v0 v1 = (a + 1, v0, v1) := by unfold wt_to; rw [if_pos h]
theorem wt_F {fk fp : Nat → Int32} {a : Nat} {x : Int32} {v0 v1 : Value} (h : wt_ok fk a x = false) : wt_to fk fp a x v0 v1 = (a, .int (if fk a = nI 2 then nI 2 else nI 1), .int (fp a)) := by unfold wt_to; rw [if_neg (by rw [h]; decide)]
/-- parseRange: what it answers; where it stands, and the fault; the pool behind it -/
def prg (fk : Nat → Int32) (pp nn : Nat → Nat) (s a : Nat) (v0 v1 : Value) (G : PG) : Bool × (Nat × Value × Value) × PG :=
  if wt_ok fk a (nI 91) = true then
    if wt_ok fk (a + 1) (nI 4) = true then
      if wt_ok fk (a + 1 + 1) (nI 5) = true then
        if wt_ok fk (a + 1 + 1 + 1) (nI 4) = true then
          (wt_ok fk (a + 1 + 1 + 1 + 1) (nI 93), wt_to fk (nF pp) (a + 1 + 1 + 1 + 1) (nI 93) v0 v1, gN (gN (gO G s 2 (some (pp a))) s 3 (nn (a + 1))) s 4 (nn (a + 1 + 1 + 1)))
        else (false, wt_to fk (nF pp) (a + 1 + 1 + 1) (nI 4) v0 v1, G)
      else (wt_ok fk (a + 1 + 1) (nI 93), wt_to fk (nF pp) (a + 1 + 1) (nI 93) v0 v1, gN (gN (gO G s 2 (some (pp a))) s 3 (nn (a + 1))) s 4 (nn (a + 1)))
    else (false, wt_to fk (nF pp) (a + 1) (nI 4) v0 v1, G)
  else (true, (a, v0, v1), G)
theorem d_Parser_parseRange_0 : decode b_Parser_parseRange 0 = .ok (.aload_n 0, 1) := by decide +kernel
theorem d_Parser_parseRange_1 : decode b_Parser_parseRange 1 = .ok (.getfield 16, 3) := by decide +kernel
theorem d_Parser_parseRange_4 : decode b_Parser_parseRange 4 = .ok (.istore_n 2, 1) := by decide +kernel
theorem d_Parser_parseRange_5 : decode b_Parser_parseRange 5 = .ok (.aload_n 0, 1) := by decide +kernel
theorem d_Parser_parseRange_6 : decode b_Parser_parseRange 6 = .ok (.bipush 91, 2) := by decide +kernel
theorem d_Parser_parseRange_8 : decode b_Parser_parseRange 8 = .ok (.invokevirtual 79, 3) := by decide +kernel
theorem d_Parser_parseRange_11 : decode b_Parser_parseRange 11 = .ok (.ifCond .ne 5, 3) := by decide +kernel
theorem d_Parser_parseRange_14 : decode b_Parser_parseRange 14 = .ok (.iconst 1, 1) := by decide +kernel
theorem d_Parser_parseRange_15 : decode b_Parser_parseRange 15 = .ok (.ireturn, 1) := by decide +kernel
theorem d_Parser_parseRange_16 : decode b_Parser_parseRange 16 = .ok (.aload_n 0, 1) := by decide +kernel
theorem d_Parser_parseRange_17 : decode b_Parser_parseRange 17 = .ok (.getfield 16, 3) := by decide +kernel
theorem d_Parser_parseRange_20 : decode b_Parser_parseRange 20 = .ok (.istore_n 3, 1) := by decide +kernel
theorem d_Parser_parseRange_21 : decode b_Parser_parseRange 21 = .ok (.aload_n 0, 1) := by decide +kernel
theorem d_Parser_parseRange_22 : decode b_Parser_parseRange 22 = .ok (.iconst 4, 1) := by decide +kernel
theorem d_Parser_parseRange_23 : decode b_Parser_parseRange 23 = .ok (.invokevirtual 43, 3) := by decide +kernel
theorem d_Parser_parseRange_26 : decode b_Parser_parseRange 26 = .ok (.ifCond .ne 5, 3) := by decide +kernel
theorem d_Parser_parseRange_29 : decode b_Parser_parseRange 29 = .ok (.iconst 0, 1) := by decide +kernel
theorem d_Parser_parseRange_30 : decode b_Parser_parseRange 30 = .ok (.ireturn, 1) := by decide +kernel
theorem d_Parser_parseRange_31 : decode b_Parser_parseRange 31 = .ok (.iload_n 3, 1) := by decide +kernel
theorem d_Parser_parseRange_32 : decode b_Parser_parseRange 32 = .ok (.istore 4, 2) := by decide +kernel
theorem d_Parser_parseRange_34 : decode b_Parser_parseRange 34 = .ok (.aload_n 0, 1) := by decide +kernel
theorem d_Parser_parseRange_35 : decode b_Parser_parseRange 35 = .ok (.iconst 5, 1) := by decide +kernel
theorem d_Parser_parseRange_36 : decode b_Parser_parseRange 36 = .ok (.invokevirtual 79, 3) := by decide +kernel
theorem d_Parser_parseRange_39 : decode b_Parser_parseRange 39 = .ok (.ifCond .eq 19, 3) := by decide +kernel
theorem d_Parser_parseRange_42 : decode b_Parser_parseRange 42 = .ok (.aload_n 0, 1) := by decide +kernel
theorem d_Parser_parseRange_43 : decode b_Parser_parseRange 43 = .ok (.getfield 16, 3) := by decide +kernel
theorem d_Parser_parseRange_46 : decode b_Parser_parseRange 46 = .ok (.istore 4, 2) := by decide +kernel
theorem d_Parser_parseRange_48 : decode b_Parser_parseRange 48 = .ok (.aload_n 0, 1) := by decide +kernel
theorem d_Parser_parseRange_49 : decode b_Parser_parseRange 49 = .ok (.iconst 4, 1) := by decide +kernel
theorem d_Parser_parseRange_50 : decode b_Parser_parseRange 50 = .ok (.invokevirtual 43, 3) := by decide +kernel
theorem d_Parser_parseRange_53 : decode b_Parser_parseRange 53 = .ok (.ifCond .ne 5, 3) := by decide +kernel
theorem d_Parser_parseRange_56 : decode b_Parser_parseRange 56 = .ok (.iconst 0, 1) := by decide +kernel
theorem d_Parser_parseRange_57 : decode b_Parser_parseRange 57 = .ok (.ireturn, 1) := by decide +kernel
theorem d_Parser_parseRange_58 : decode b_Parser_parseRange 58 = .ok (.aload_n 1, 1) := by decide +kernel
theorem d_Parser_parseRange_59 : decode b_Parser_parseRange 59 = .ok (.aload_n 0, 1) := by decide +kernel
theorem d_Parser_parseRange_60 : decode b_Parser_parseRange 60 = .ok (.getfield 20, 3) := by decide +kernel
theorem d_Parser_parseRange_63 : decode b_Parser_parseRange 63 = .ok (.getfield 96, 3) := by decide +kernel
theorem d_Parser_parseRange_66 : decode b_Parser_parseRange 66 = .ok (.iload_n 2, 1) := by decide +kernel
theorem d_Parser_parseRange_67 : decode b_Parser_parseRange 67 = .ok (.iaload, 1) := by decide +kernel
theorem d_Parser_parseRange_68 : decode b_Parser_parseRange 68 = .ok (.putfield 161, 3) := by decide +kernel
theorem d_Parser_parseRange_71 : decode b_Parser_parseRange 71 = .ok (.aload_n 1, 1) := by decide +kernel
theorem d_Parser_parseRange_72 : decode b_Parser_parseRange 72 = .ok (.aload_n 0, 1) := by decide +kernel
theorem d_Parser_parseRange_73 : decode b_Parser_parseRange 73 = .ok (.getfield 20, 3) := by decide +kernel
theorem d_Parser_parseRange_76 : decode b_Parser_parseRange 76 = .ok (.getfield 92, 3) := by decide +kernel
theorem d_Parser_parseRange_79 : decode b_Parser_parseRange 79 = .ok (.iload_n 3, 1) := by decide +kernel
theorem d_Parser_parseRange_80 : decode b_Parser_parseRange 80 = .ok (.iaload, 1) := by decide +kernel
theorem d_Parser_parseRange_81 : decode b_Parser_parseRange 81 = .ok (.putfield 164, 3) := by decide +kernel
theorem d_Parser_parseRange_84 : decode b_Parser_parseRange 84 = .ok (.aload_n 1, 1) := by decide +kernel
theorem d_Parser_parseRange_85 : decode b_Parser_parseRange 85 = .ok (.aload_n 0, 1) := by decide +kernel
theorem d_Parser_parseRange_86 : decode b_Parser_parseRange 86 = .ok (.getfield 20, 3) := by decide +kernel
theorem d_Parser_parseRange_89 : decode b_Parser_parseRange 89 = .ok (.getfield 92, 3) := by decide +kernel
theorem d_Parser_parseRange_92 : decode b_Parser_parseRange 92 = .ok (.iload 4, 2) := by decide +kernel
theorem d_Parser_parseRange_94 : decode b_Parser_parseRange 94 = .ok (.iaload, 1) := by decide +kernel
theorem d_Parser_parseRange_95 : decode b_Parser_parseRange 95 = .ok (.putfield 167, 3) := by decide +kernel
theorem d_Parser_parseRange_98 : decode b_Parser_parseRange 98 = .ok (.aload_n 0, 1) := by decide +kernel
theorem d_Parser_parseRange_99 : decode b_Parser_parseRange 99 = .ok (.bipush 93, 2) := by decide +kernel
theorem d_Parser_parseRange_101 : decode b_Parser_parseRange 101 = .ok (.invokevirtual 43, 3) := by decide +kernel
theorem d_Parser_parseRange_104 : decode b_Parser_parseRange 104 = .ok (.ireturn, 1) := by decide +kernel
set_option maxHeartbeats 4000000 in
set_option maxRecDepth 100000 in
/-- parseRange(side) -/
theorem p_Parser_parseRange (l : Launch) (dC : Nat → ClassId) (dI : Nat → Nat → Nat) (cB cI cL cZ cC cO : ClassId) (qp qc qt qf qk ql qn qh qe : Nat) {w0 w1 : Value} (fk : Nat → Int32) (pp nn : Nat → Nat) (fh fl : Nat → Int64) {L : List Nat} {G : PG} (sd a : Nat) (v0 v1 : Value) (t0 sz : Nat) (hL : gL L G) (ha : a ≤ 1000) (hs : G.1 sd = 3) : Met l y_Parser_parseRange w_Parser_parseRange ({ frames := 2, cells := 0, slots := 0, locals := 80 }) (va_Pc [.ref qp, .ref sd] (wB2 (dC, dI) cl [(cB, .byte), (cI, .int), (cL, .long), (cZ, .boolean), (cC, .char), (cO, .object "java/lang/Object")] sz t0 ([(qp, .inr (3, [.ref qc, .ref qt, .ref qf, .int (nI a)])), (qt, .inr (1, [w0, w1, .ref qk, .ref ql, .ref qn, .ref qh, .ref qe])), (qk, .inl (cI, 1001, .inl fk)), (ql, .inl (cI, 1001, .inl (nF pp))), (qn, .inl (cI, 1001, .inl (nF nn))), (qh, .inl (cL, 1001, .inr (.inl fh))), (qe, .inl (cL, 1001, .inr (.inl fl))), (qf, .inr (2, [v0, v1]))] ++ va_pl L (gE cO G)))) (va_Qi (fun (r : Int32) (u : (Nat × Value × Value) × PG) => r = bI (prg fk pp nn sd a v0 v1 G).1 ∧ u = (prg fk pp nn sd a v0 v1 G).2) (fun u t => wA (dC, dI) cl [(cB, .byte), (cI, .int), (cL, .long), (cZ, .boolean), (cC, .char), (cO, .object "java/lang/Object")] (va_A ([(qp, .inr (3, [.ref qc, .ref qt, .ref qf, .int (nI a)])), (qt, .inr (1, [w0, w1, .ref qk, .ref ql, .ref qn, .ref qh, .ref qe])), (qk, .inl (cI, 1001, .inl fk)), (ql, .inl (cI, 1001, .inl (nF pp))), (qn, .inl (cI, 1001, .inl (nF nn))), (qh, .inl (cL, 1001, .inr (.inl fh))), (qe, .inl (cL, 1001, .inr (.inl fl))), (qf, .inr (2, [v0, v1]))] ++ va_pl L (gE cO G)) sz) ([(qp, .inr (3, [.ref qc, .ref qt, .ref qf, .int (nI u.1.1)])), (qt, .inr (1, [w0, w1, .ref qk, .ref ql, .ref qn, .ref qh, .ref qe])), (qk, .inl (cI, 1001, .inl fk)), (ql, .inl (cI, 1001, .inl (nF pp))), (qn, .inl (cI, 1001, .inl (nF nn))), (qh, .inl (cL, 1001, .inr (.inl fh))), (qe, .inl (cL, 1001, .inr (.inl fl))), (qf, .inr (2, [u.1.2.1, u.1.2.2]))] ++ va_pl L (gE cO u.2)) t) (va_A ([(qp, .inr (3, [.ref qc, .ref qt, .ref qf, .int (nI a)])), (qt, .inr (1, [w0, w1, .ref qk, .ref ql, .ref qn, .ref qh, .ref qe])), (qk, .inl (cI, 1001, .inl fk)), (ql, .inl (cI, 1001, .inl (nF pp))), (qn, .inl (cI, 1001, .inl (nF nn))), (qh, .inl (cL, 1001, .inr (.inl fh))), (qe, .inl (cL, 1001, .inr (.inl fl))), (qf, .inr (2, [v0, v1]))] ++ va_pl L (gE cO G)) sz)) 0 0 (va_A ([(qp, .inr (3, [.ref qc, .ref qt, .ref qf, .int (nI a)])), (qt, .inr (1, [w0, w1, .ref qk, .ref ql, .ref qn, .ref qh, .ref qe])), (qk, .inl (cI, 1001, .inl fk)), (ql, .inl (cI, 1001, .inl (nF pp))), (qn, .inl (cI, 1001, .inl (nF nn))), (qh, .inl (cL, 1001, .inr (.inl fh))), (qe, .inl (cL, 1001, .inr (.inl fl))), (qf, .inr (2, [v0, v1]))] ++ va_pl L (gE cO G)) sz) := by
  refine Met.ofW (cc := b_Parser_parseRange) (maxL := 5) (ret := (some ClassFile.FieldType.boolean)) (by decide) rfl ?_
  intro p e s m args below meth c s₁ B hml hv
  obtain ⟨rfl, ⟨hsz, hP, hK, hD0, hF⟩, hE⟩ := hv
  have hx := B.exec
  have hb := B.bytes
  have hr := B.returns
  have hts := atoms_spec (ws := w_Parser_parseRange) B.pre
  have hts : ∀ w ∈ tb, w.before _ s = true := fun w h => hts w (List.mem_cons_of_mem _ h)
  have hown : s.vm.findClass R_Parser = some m.cls := findClass_of_methodNamed B.named
  have hlocks := B.notSynchronized
  subst hsz
  have hD := hD0.self (sz := s.heap.size)
  generalize hAe : va_A ([(qp, .inr (3, [.ref qc, .ref qt, .ref qf, .int (nI a)])), (qt, .inr (1, [w0, w1, .ref qk, .ref ql, .ref qn, .ref qh, .ref qe])), (qk, .inl (cI, 1001, .inl fk)), (ql, .inl (cI, 1001, .inl (nF pp))), (qn, .inl (cI, 1001, .inl (nF nn))), (qh, .inl (cL, 1001, .inr (.inl fh))), (qe, .inl (cL, 1001, .inr (.inl fl))), (qf, .inr (2, [v0, v1]))] ++ va_pl L (gE cO G)) s.heap.size = A at hD hF hE ⊢
  have hA : ∀ q : Nat, s.heap.size ≤ q → A q := fun q h => by rw [← hAe]; exact Or.inr h
  have hS : va_S A s.heap s.heap [] := va_S.rf
  have hP : va_P (dC, dI) cl ([(qp, .inr (3, [.ref qc, .ref qt, .ref qf, .int (nI a)])), (qt, .inr (1, [w0, w1, .ref qk, .ref ql, .ref qn, .ref qh, .ref qe])), (qk, .inl (cI, 1001, .inl fk)), (ql, .inl (cI, 1001, .inl (nF pp))), (qn, .inl (cI, 1001, .inl (nF nn))), (qh, .inl (cL, 1001, .inr (.inl fh))), (qe, .inl (cL, 1001, .inr (.inl fl))), (qf, .inr (2, [v0, v1]))] ++ va_pl L (gE cO G)) s.heap := hP
  have hl := lv_entry ([.ref qp, .ref sd]) (n := 5) (Nat.le_of_ble_eq_true rfl)
  rw [lg_entry_eq]
  generalize (lg_sl ([.ref qp, .ref sd]) ++ List.replicate (5 - (lg_sl ([.ref qp, .ref sd])).length) Slot.unset).toArray = ls at hl ⊢
  have hl : lv_has ls 5 [(0, .ref qp), (1, .ref sd)] := hl
  refine lv_aload_n hx hb d_Parser_parseRange_0 rfl (lv_at hl 0 rfl) ?_
  refine va_get (D := (dC, dI)) (ci := 3) (v := .int (nI a)) (C := R_Parser) (T := F_Parser) (N := 4) hx hb hts i_Parser hown hK hP 0 rfl rfl 3 (by decide) (hts _ k_119) (fun _ h9 => h9) rfl d_Parser_parseRange_1 ?_
  refine lv_istore_n (lv' := [(2, .int (nI a)), (0, .ref qp), (1, .ref sd)]) hx hb d_Parser_parseRange_4 rfl hl (by decide) rfl (fun ls hl => ?_)
  refine lv_aload_n hx hb d_Parser_parseRange_5 rfl (lv_at hl 1 rfl) ?_
  refine lv_bipush (v := nI 91) hx hb d_Parser_parseRange_6 (by decide) ?_
  refine we_i (cx := [(qp, .inr (3, [.ref qc, .ref qt, .ref qf, .int (nI a)])), (qt, .inr (1, [w0, w1, .ref qk, .ref ql, .ref qn, .ref qh, .ref qe])), (qk, .inl (cI, 1001, .inl fk))]) (wr := [(ql, .inl (cI, 1001, .inl (nF pp))), (qn, .inl (cI, 1001, .inl (nF nn))), (qh, .inl (cL, 1001, .inr (.inl fh))), (qe, .inl (cL, 1001, .inr (.inl fl))), (qf, .inr (2, [v0, v1]))]) (pl := va_pl L (gE cO G)) (va_runV (As := [.int (nI 91)]) (rest := []) ⟨hx, hb, hml, hown, hts⟩ (c_Parser_takes l dC dI cB cI cL cZ cC cO qp qc qt qf qk ql fk a (nI 91) _ (by omega)) (cwV 1 hts (good_V k_563 k_565 s_Parser_takes k_4 k_566) rfl rfl rfl (by decide +kernel) ⟨Nat.le_of_ble_eq_true rfl, Nat.le_of_ble_eq_true rfl⟩) (wc_preV (k0 := 0) (ci := 3) (r := (R_Parser, F_Parser, 4)) hK hP hD hS hA hF [0, 1, 2] (by decide) rfl rfl rfl) rfl rfl hl.1 rfl (lv_room (Nat.le_of_ble_eq_true rfl)) d_Parser_parseRange_8 ⟨Nat.le_of_ble_eq_true rfl, Nat.le_of_ble_eq_true rfl⟩) hP hD hS hA [0, 1, 2] [3, 4, 5, 6, 7] rfl rfl (by decide) (by decide) (fun r_4 u_2 H locs w_3 hP hD hS => ?_)
  have hP : va_P (dC, dI) cl ([(ql, .inl (cI, 1001, .inl (nF pp))), (qn, .inl (cI, 1001, .inl (nF nn))), (qh, .inl (cL, 1001, .inr (.inl fh))), (qe, .inl (cL, 1001, .inr (.inl fl))), (qf, .inr (2, [v0, v1])), (qp, .inr (3, [.ref qc, .ref qt, .ref qf, .int (nI u_2)])), (qt, .inr (1, [w0, w1, .ref qk, .ref ql, .ref qn, .ref qh, .ref qe])), (qk, .inl (cI, 1001, .inl fk))] ++ va_pl L (gE cO G)) H := hP
  have hD : va_D A ([(ql, .inl (cI, 1001, .inl (nF pp))), (qn, .inl (cI, 1001, .inl (nF nn))), (qh, .inl (cL, 1001, .inr (.inl fh))), (qe, .inl (cL, 1001, .inr (.inl fl))), (qf, .inr (2, [v0, v1])), (qp, .inr (3, [.ref qc, .ref qt, .ref qf, .int (nI u_2)])), (qt, .inr (1, [w0, w1, .ref qk, .ref ql, .ref qn, .ref qh, .ref qe])), (qk, .inl (cI, 1001, .inl fk))] ++ va_pl L (gE cO G)) := hD
  obtain ⟨r_4e, u_2e⟩ := w_3
  subst r_4e
  by_cases tk_1 : wt_ok fk a (nI 91) = true
  · rw [if_pos tk_1] at u_2e
    subst u_2e
    have hb_tk_1 : a < 1000 := wt_lt tk_1
    refine nv_bif_ne (tgt := 16) hx hb d_Parser_parseRange_11 (by decide) (fun c_5 => ?_) (fun c_5 => ?_)
    · refine lv_aload_n hx hb d_Parser_parseRange_16 rfl (lv_at hl 1 rfl) ?_
      refine va_get (D := (dC, dI)) (ci := 3) (v := .int (nI (a + 1))) (C := R_Parser) (T := F_Parser) (N := 4) hx hb hts i_Parser hown hK hP 5 rfl rfl 3 (by decide) (hts _ k_119) (fun _ h9 => h9) rfl d_Parser_parseRange_17 ?_
      refine lv_istore_n (lv' := [(3, .int (nI (a + 1))), (2, .int (nI a)), (0, .ref qp), (1, .ref sd)]) hx hb d_Parser_parseRange_20 rfl hl (by decide) rfl (fun ls hl => ?_)
      refine lv_aload_n hx hb d_Parser_parseRange_21 rfl (lv_at hl 2 rfl) ?_
      refine lv_iconst (v := nI 4) hx hb d_Parser_parseRange_22 (by decide) ?_
      refine we_i (cx := [(qp, .inr (3, [.ref qc, .ref qt, .ref qf, .int (nI (a + 1))])), (qt, .inr (1, [w0, w1, .ref qk, .ref ql, .ref qn, .ref qh, .ref qe])), (qk, .inl (cI, 1001, .inl fk)), (ql, .inl (cI, 1001, .inl (nF pp))), (qf, .inr (2, [v0, v1]))]) (wr := [(qn, .inl (cI, 1001, .inl (nF nn))), (qh, .inl (cL, 1001, .inr (.inl fh))), (qe, .inl (cL, 1001, .inr (.inl fl)))]) (pl := va_pl L (gE cO G)) (va_runV (As := [.int (nI 4)]) (rest := []) ⟨hx, hb, hml, hown, hts⟩ (c_Parser_want l dC dI cB cI cL cZ cC cO qp qc qt qf qk ql v0 v1 fk (nF pp) (a + 1) (nI 4) _ (by omega)) (cwV 1 hts (good_V k_529 k_531 s_Parser_want k_4 k_532) rfl rfl rfl (by decide +kernel) ⟨Nat.le_of_ble_eq_true rfl, Nat.le_of_ble_eq_true rfl⟩) (wc_preV (k0 := 5) (ci := 3) (r := (R_Parser, F_Parser, 4)) hK hP hD hS hA hF [5, 6, 7, 0, 4] (by decide) rfl rfl rfl) rfl rfl hl.1 rfl (lv_room (Nat.le_of_ble_eq_true rfl)) d_Parser_parseRange_23 ⟨Nat.le_of_ble_eq_true rfl, Nat.le_of_ble_eq_true rfl⟩) hP hD hS hA [5, 6, 7, 0, 4] [1, 2, 3] rfl rfl (by decide) (by decide) (fun r_9 u_7 H locs w_8 hP hD hS => ?_)
      have hP : va_P (dC, dI) cl ([(qn, .inl (cI, 1001, .inl (nF nn))), (qh, .inl (cL, 1001, .inr (.inl fh))), (qe, .inl (cL, 1001, .inr (.inl fl))), (qp, .inr (3, [.ref qc, .ref qt, .ref qf, .int (nI u_7.1)])), (qt, .inr (1, [w0, w1, .ref qk, .ref ql, .ref qn, .ref qh, .ref qe])), (qk, .inl (cI, 1001, .inl fk)), (ql, .inl (cI, 1001, .inl (nF pp))), (qf, .inr (2, [u_7.2.1, u_7.2.2]))] ++ va_pl L (gE cO G)) H := hP
      have hD : va_D A ([(qn, .inl (cI, 1001, .inl (nF nn))), (qh, .inl (cL, 1001, .inr (.inl fh))), (qe, .inl (cL, 1001, .inr (.inl fl))), (qp, .inr (3, [.ref qc, .ref qt, .ref qf, .int (nI u_7.1)])), (qt, .inr (1, [w0, w1, .ref qk, .ref ql, .ref qn, .ref qh, .ref qe])), (qk, .inl (cI, 1001, .inl fk)), (ql, .inl (cI, 1001, .inl (nF pp))), (qf, .inr (2, [u_7.2.1, u_7.2.2]))] ++ va_pl L (gE cO G)) := hD
      obtain ⟨r_9e, u_7e⟩ := w_8
      subst r_9e
      by_cases tk_6 : wt_ok fk (a + 1) (nI 4) = true
      · rw [wt_T tk_6] at u_7e
        subst u_7e
        have hb_tk_6 : (a + 1) < 1000 := wt_lt tk_6
        have hP : va_P (dC, dI) cl ([(qn, .inl (cI, 1001, .inl (nF nn))), (qh, .inl (cL, 1001, .inr (.inl fh))), (qe, .inl (cL, 1001, .inr (.inl fl))), (qp, .inr (3, [.ref qc, .ref qt, .ref qf, .int (nI ((a + 1) + 1))])), (qt, .inr (1, [w0, w1, .ref qk, .ref ql, .ref qn, .ref qh, .ref qe])), (qk, .inl (cI, 1001, .inl fk)), (ql, .inl (cI, 1001, .inl (nF pp))), (qf, .inr (2, [v0, v1]))] ++ va_pl L (gE cO G)) H := hP
        have hD : va_D A ([(qn, .inl (cI, 1001, .inl (nF nn))), (qh, .inl (cL, 1001, .inr (.inl fh))), (qe, .inl (cL, 1001, .inr (.inl fl))), (qp, .inr (3, [.ref qc, .ref qt, .ref qf, .int (nI ((a + 1) + 1))])), (qt, .inr (1, [w0, w1, .ref qk, .ref ql, .ref qn, .ref qh, .ref qe])), (qk, .inl (cI, 1001, .inl fk)), (ql, .inl (cI, 1001, .inl (nF pp))), (qf, .inr (2, [v0, v1]))] ++ va_pl L (gE cO G)) := hD
        refine nv_bif_ne (tgt := 31) hx hb d_Parser_parseRange_26 (by decide) (fun c_10 => ?_) (fun c_10 => ?_)
        · refine lv_iload_n hx hb d_Parser_parseRange_31 rfl (lv_at hl 0 rfl) ?_
          refine lv_istore (lv' := [(4, .int (nI (a + 1))), (3, .int (nI (a + 1))), (2, .int (nI a)), (0, .ref qp), (1, .ref sd)]) hx hb d_Parser_parseRange_32 hl (by decide) rfl (fun ls hl => ?_)
          refine lv_aload_n hx hb d_Parser_parseRange_34 rfl (lv_at hl 3 rfl) ?_
          refine lv_iconst (v := nI 5) hx hb d_Parser_parseRange_35 (by decide) ?_
          refine we_i (cx := [(qp, .inr (3, [.ref qc, .ref qt, .ref qf, .int (nI ((a + 1) + 1))])), (qt, .inr (1, [w0, w1, .ref qk, .ref ql, .ref qn, .ref qh, .ref qe])), (qk, .inl (cI, 1001, .inl fk))]) (wr := [(qn, .inl (cI, 1001, .inl (nF nn))), (qh, .inl (cL, 1001, .inr (.inl fh))), (qe, .inl (cL, 1001, .inr (.inl fl))), (ql, .inl (cI, 1001, .inl (nF pp))), (qf, .inr (2, [v0, v1]))]) (pl := va_pl L (gE cO G)) (va_runV (As := [.int (nI 5)]) (rest := []) ⟨hx, hb, hml, hown, hts⟩ (c_Parser_takes l dC dI cB cI cL cZ cC cO qp qc qt qf qk ql fk ((a + 1) + 1) (nI 5) _ (by omega)) (cwV 1 hts (good_V k_563 k_565 s_Parser_takes k_4 k_566) rfl rfl rfl (by decide +kernel) ⟨Nat.le_of_ble_eq_true rfl, Nat.le_of_ble_eq_true rfl⟩) (wc_preV (k0 := 3) (ci := 3) (r := (R_Parser, F_Parser, 4)) hK hP hD hS hA hF [3, 4, 5] (by decide) rfl rfl rfl) rfl rfl hl.1 rfl (lv_room (Nat.le_of_ble_eq_true rfl)) d_Parser_parseRange_36 ⟨Nat.le_of_ble_eq_true rfl, Nat.le_of_ble_eq_true rfl⟩) hP hD hS hA [3, 4, 5] [0, 1, 2, 6, 7] rfl rfl (by decide) (by decide) (fun r_14 u_12 H locs w_13 hP hD hS => ?_)
          have hP : va_P (dC, dI) cl ([(qn, .inl (cI, 1001, .inl (nF nn))), (qh, .inl (cL, 1001, .inr (.inl fh))), (qe, .inl (cL, 1001, .inr (.inl fl))), (ql, .inl (cI, 1001, .inl (nF pp))), (qf, .inr (2, [v0, v1])), (qp, .inr (3, [.ref qc, .ref qt, .ref qf, .int (nI u_12)])), (qt, .inr (1, [w0, w1, .ref qk, .ref ql, .ref qn, .ref qh, .ref qe])), (qk, .inl (cI, 1001, .inl fk))] ++ va_pl L (gE cO G)) H := hP
          have hD : va_D A ([(qn, .inl (cI, 1001, .inl (nF nn))), (qh, .inl (cL, 1001, .inr (.inl fh))), (qe, .inl (cL, 1001, .inr (.inl fl))), (ql, .inl (cI, 1001, .inl (nF pp))), (qf, .inr (2, [v0, v1])), (qp, .inr (3, [.ref qc, .ref qt, .ref qf, .int (nI u_12)])), (qt, .inr (1, [w0, w1, .ref qk, .ref ql, .ref qn, .ref qh, .ref qe])), (qk, .inl (cI, 1001, .inl fk))] ++ va_pl L (gE cO G)) := hD
          obtain ⟨r_14e, u_12e⟩ := w_13
          subst r_14e
          by_cases tk_11 : wt_ok fk ((a + 1) + 1) (nI 5) = true
          · rw [if_pos tk_11] at u_12e
            subst u_12e
            have hb_tk_11 : ((a + 1) + 1) < 1000 := wt_lt tk_11
            refine nv_bif_eq (tgt := 58) hx hb d_Parser_parseRange_39 (by decide) (fun c_15 => ?_) (fun c_15 => ?_)
            · exact absurd (tk_11.symm.trans c_15) (by decide)
            · refine lv_aload_n hx hb d_Parser_parseRange_42 rfl (lv_at hl 3 rfl) ?_
              refine va_get (D := (dC, dI)) (ci := 3) (v := .int (nI (((a + 1) + 1) + 1))) (C := R_Parser) (T := F_Parser) (N := 4) hx hb hts i_Parser hown hK hP 5 rfl rfl 3 (by decide) (hts _ k_119) (fun _ h9 => h9) rfl d_Parser_parseRange_43 ?_
              refine lv_istore (lv' := [(4, .int (nI (((a + 1) + 1) + 1))), (3, .int (nI (a + 1))), (2, .int (nI a)), (0, .ref qp), (1, .ref sd)]) hx hb d_Parser_parseRange_46 hl (by decide) rfl (fun ls hl => ?_)
              refine lv_aload_n hx hb d_Parser_parseRange_48 rfl (lv_at hl 3 rfl) ?_
              refine lv_iconst (v := nI 4) hx hb d_Parser_parseRange_49 (by decide) ?_
              refine we_i (cx := [(qp, .inr (3, [.ref qc, .ref qt, .ref qf, .int (nI (((a + 1) + 1) + 1))])), (qt, .inr (1, [w0, w1, .ref qk, .ref ql, .ref qn, .ref qh, .ref qe])), (qk, .inl (cI, 1001, .inl fk)), (ql, .inl (cI, 1001, .inl (nF pp))), (qf, .inr (2, [v0, v1]))]) (wr := [(qn, .inl (cI, 1001, .inl (nF nn))), (qh, .inl (cL, 1001, .inr (.inl fh))), (qe, .inl (cL, 1001, .inr (.inl fl)))]) (pl := va_pl L (gE cO G)) (va_runV (As := [.int (nI 4)]) (rest := []) ⟨hx, hb, hml, hown, hts⟩ (c_Parser_want l dC dI cB cI cL cZ cC cO qp qc qt qf qk ql v0 v1 fk (nF pp) (((a + 1) + 1) + 1) (nI 4) _ (by omega)) (cwV 1 hts (good_V k_529 k_531 s_Parser_want k_4 k_532) rfl rfl rfl (by decide +kernel) ⟨Nat.le_of_ble_eq_true rfl, Nat.le_of_ble_eq_true rfl⟩) (wc_preV (k0 := 5) (ci := 3) (r := (R_Parser, F_Parser, 4)) hK hP hD hS hA hF [5, 6, 7, 3, 4] (by decide) rfl rfl rfl) rfl rfl hl.1 rfl (lv_room (Nat.le_of_ble_eq_true rfl)) d_Parser_parseRange_50 ⟨Nat.le_of_ble_eq_true rfl, Nat.le_of_ble_eq_true rfl⟩) hP hD hS hA [5, 6, 7, 3, 4] [0, 1, 2] rfl rfl (by decide) (by decide) (fun r_19 u_17 H locs w_18 hP hD hS => ?_)
              have hP : va_P (dC, dI) cl ([(qn, .inl (cI, 1001, .inl (nF nn))), (qh, .inl (cL, 1001, .inr (.inl fh))), (qe, .inl (cL, 1001, .inr (.inl fl))), (qp, .inr (3, [.ref qc, .ref qt, .ref qf, .int (nI u_17.1)])), (qt, .inr (1, [w0, w1, .ref qk, .ref ql, .ref qn, .ref qh, .ref qe])), (qk, .inl (cI, 1001, .inl fk)), (ql, .inl (cI, 1001, .inl (nF pp))), (qf, .inr (2, [u_17.2.1, u_17.2.2]))] ++ va_pl L (gE cO G)) H := hP
              have hD : va_D A ([(qn, .inl (cI, 1001, .inl (nF nn))), (qh, .inl (cL, 1001, .inr (.inl fh))), (qe, .inl (cL, 1001, .inr (.inl fl))), (qp, .inr (3, [.ref qc, .ref qt, .ref qf, .int (nI u_17.1)])), (qt, .inr (1, [w0, w1, .ref qk, .ref ql, .ref qn, .ref qh, .ref qe])), (qk, .inl (cI, 1001, .inl fk)), (ql, .inl (cI, 1001, .inl (nF pp))), (qf, .inr (2, [u_17.2.1, u_17.2.2]))] ++ va_pl L (gE cO G)) := hD
              obtain ⟨r_19e, u_17e⟩ := w_18
              subst r_19e
              by_cases tk_16 : wt_ok fk (((a + 1) + 1) + 1) (nI 4) = true
              · rw [wt_T tk_16] at u_17e
                subst u_17e
                have hb_tk_16 : (((a + 1) + 1) + 1) < 1000 := wt_lt tk_16
                have hP : va_P (dC, dI) cl ([(qn, .inl (cI, 1001, .inl (nF nn))), (qh, .inl (cL, 1001, .inr (.inl fh))), (qe, .inl (cL, 1001, .inr (.inl fl))), (qp, .inr (3, [.ref qc, .ref qt, .ref qf, .int (nI ((((a + 1) + 1) + 1) + 1))])), (qt, .inr (1, [w0, w1, .ref qk, .ref ql, .ref qn, .ref qh, .ref qe])), (qk, .inl (cI, 1001, .inl fk)), (ql, .inl (cI, 1001, .inl (nF pp))), (qf, .inr (2, [v0, v1]))] ++ va_pl L (gE cO G)) H := hP
                have hD : va_D A ([(qn, .inl (cI, 1001, .inl (nF nn))), (qh, .inl (cL, 1001, .inr (.inl fh))), (qe, .inl (cL, 1001, .inr (.inl fl))), (qp, .inr (3, [.ref qc, .ref qt, .ref qf, .int (nI ((((a + 1) + 1) + 1) + 1))])), (qt, .inr (1, [w0, w1, .ref qk, .ref ql, .ref qn, .ref qh, .ref qe])), (qk, .inl (cI, 1001, .inl fk)), (ql, .inl (cI, 1001, .inl (nF pp))), (qf, .inr (2, [v0, v1]))] ++ va_pl L (gE cO G)) := hD
                refine nv_bif_ne (tgt := 58) hx hb d_Parser_parseRange_53 (by decide) (fun c_20 => ?_) (fun c_20 => ?_)
                · refine lv_aload_n hx hb d_Parser_parseRange_58 rfl (lv_at hl 4 rfl) ?_
                  refine lv_aload_n hx hb d_Parser_parseRange_59 rfl (lv_at hl 3 rfl) ?_
                  refine va_get (D := (dC, dI)) (ci := 3) (v := .ref qt) (C := R_Parser) (T := F_Parser) (N := 4) hx hb hts i_Parser hown hK hP 3 rfl rfl 1 (by decide) (hts _ k_117) (fun _ h9 => h9) rfl d_Parser_parseRange_60 ?_
                  refine va_get (D := (dC, dI)) (ci := 1) (v := .ref ql) (C := R_Text) (T := F_Text) (N := 7) hx hb hts i_Text hown hK hP 4 rfl rfl 3 (by decide) (hts _ k_43) (fun _ h9 => h9) rfl d_Parser_parseRange_63 ?_
                  refine lv_iload_n hx hb d_Parser_parseRange_66 rfl (lv_at hl 2 rfl) ?_
                  refine nv_iald hx hb hK hP 6 1 rfl rfl (by omega) (by decide) d_Parser_parseRange_67 ?_
                  refine pq_put (D := (dC, dI)) (ci := 11) (v := .int (oI (some (pp a)))) (ty := .int) (C := R_Side) (T := F_Side) (N := 5) hx hb hts i_Side t_Side t_Side_ok n_Side hown hK hP hD hS (gL_m hL hs (by decide)) (gE_3 (G := G) hs) rfl 2 (by decide) (hts _ k_621) (fun _ h9 => h9) rfl (by decide +kernel) rfl rfl (Nat.le_of_ble_eq_true rfl) (uE_3_2 (G := G) (v := some (pp a)) hs) d_Parser_parseRange_68 (fun H locs hP hD hS => ?_)
                  have hP : va_P (dC, dI) cl ([(qn, .inl (cI, 1001, .inl (nF nn))), (qh, .inl (cL, 1001, .inr (.inl fh))), (qe, .inl (cL, 1001, .inr (.inl fl))), (qp, .inr (3, [.ref qc, .ref qt, .ref qf, .int (nI ((((a + 1) + 1) + 1) + 1))])), (qt, .inr (1, [w0, w1, .ref qk, .ref ql, .ref qn, .ref qh, .ref qe])), (qk, .inl (cI, 1001, .inl fk)), (ql, .inl (cI, 1001, .inl (nF pp))), (qf, .inr (2, [v0, v1]))] ++ va_pl L (gE cO (gO G sd 2 (some (pp a))))) H := hP
                  have hD : va_D A ([(qn, .inl (cI, 1001, .inl (nF nn))), (qh, .inl (cL, 1001, .inr (.inl fh))), (qe, .inl (cL, 1001, .inr (.inl fl))), (qp, .inr (3, [.ref qc, .ref qt, .ref qf, .int (nI ((((a + 1) + 1) + 1) + 1))])), (qt, .inr (1, [w0, w1, .ref qk, .ref ql, .ref qn, .ref qh, .ref qe])), (qk, .inl (cI, 1001, .inl fk)), (ql, .inl (cI, 1001, .inl (nF pp))), (qf, .inr (2, [v0, v1]))] ++ va_pl L (gE cO (gO G sd 2 (some (pp a))))) := hD
                  refine lv_aload_n hx hb d_Parser_parseRange_71 rfl (lv_at hl 4 rfl) ?_
                  refine lv_aload_n hx hb d_Parser_parseRange_72 rfl (lv_at hl 3 rfl) ?_
                  refine va_get (D := (dC, dI)) (ci := 3) (v := .ref qt) (C := R_Parser) (T := F_Parser) (N := 4) hx hb hts i_Parser hown hK hP 3 rfl rfl 1 (by decide) (hts _ k_117) (fun _ h9 => h9) rfl d_Parser_parseRange_73 ?_
                  refine va_get (D := (dC, dI)) (ci := 1) (v := .ref qn) (C := R_Text) (T := F_Text) (N := 7) hx hb hts i_Text hown hK hP 4 rfl rfl 4 (by decide) (hts _ k_45) (fun _ h9 => h9) rfl d_Parser_parseRange_76 ?_
                  refine lv_iload_n hx hb d_Parser_parseRange_79 rfl (lv_at hl 1 rfl) ?_
                  refine nv_iald hx hb hK hP 0 1 rfl rfl (by omega) (by decide) d_Parser_parseRange_80 ?_
                  refine pq_put (D := (dC, dI)) (ci := 11) (v := .int (nI (nn (a + 1)))) (ty := .int) (C := R_Side) (T := F_Side) (N := 5) hx hb hts i_Side t_Side t_Side_ok n_Side hown hK hP hD hS (gL_m hL hs (by decide)) (gE_3 (G := (gO G sd 2 (some (pp a)))) hs) rfl 3 (by decide) (hts _ k_624) (fun _ h9 => h9) rfl (by decide +kernel) rfl rfl (Nat.le_of_ble_eq_true rfl) (uE_3_3 (G := (gO G sd 2 (some (pp a)))) (v := nn (a + 1)) hs) d_Parser_parseRange_81 (fun H locs hP hD hS => ?_)
                  have hP : va_P (dC, dI) cl ([(qn, .inl (cI, 1001, .inl (nF nn))), (qh, .inl (cL, 1001, .inr (.inl fh))), (qe, .inl (cL, 1001, .inr (.inl fl))), (qp, .inr (3, [.ref qc, .ref qt, .ref qf, .int (nI ((((a + 1) + 1) + 1) + 1))])), (qt, .inr (1, [w0, w1, .ref qk, .ref ql, .ref qn, .ref qh, .ref qe])), (qk, .inl (cI, 1001, .inl fk)), (ql, .inl (cI, 1001, .inl (nF pp))), (qf, .inr (2, [v0, v1]))] ++ va_pl L (gE cO (gN (gO G sd 2 (some (pp a))) sd 3 (nn (a + 1))))) H := hP
                  have hD : va_D A ([(qn, .inl (cI, 1001, .inl (nF nn))), (qh, .inl (cL, 1001, .inr (.inl fh))), (qe, .inl (cL, 1001, .inr (.inl fl))), (qp, .inr (3, [.ref qc, .ref qt, .ref qf, .int (nI ((((a + 1) + 1) + 1) + 1))])), (qt, .inr (1, [w0, w1, .ref qk, .ref ql, .ref qn, .ref qh, .ref qe])), (qk, .inl (cI, 1001, .inl fk)), (ql, .inl (cI, 1001, .inl (nF pp))), (qf, .inr (2, [v0, v1]))] ++ va_pl L (gE cO (gN (gO G sd 2 (some (pp a))) sd 3 (nn (a + 1))))) := hD
                  refine lv_aload_n hx hb d_Parser_parseRange_84 rfl (lv_at hl 4 rfl) ?_
                  refine lv_aload_n hx hb d_Parser_parseRange_85 rfl (lv_at hl 3 rfl) ?_
                  refine va_get (D := (dC, dI)) (ci := 3) (v := .ref qt) (C := R_Parser) (T := F_Parser) (N := 4) hx hb hts i_Parser hown hK hP 3 rfl rfl 1 (by decide) (hts _ k_117) (fun _ h9 => h9) rfl d_Parser_parseRange_86 ?_
                  refine va_get (D := (dC, dI)) (ci := 1) (v := .ref qn) (C := R_Text) (T := F_Text) (N := 7) hx hb hts i_Text hown hK hP 4 rfl rfl 4 (by decide) (hts _ k_45) (fun _ h9 => h9) rfl d_Parser_parseRange_89 ?_
                  refine lv_iload hx hb d_Parser_parseRange_92 (lv_at hl 0 rfl) ?_
                  refine nv_iald hx hb hK hP 0 1 rfl rfl (by omega) (by decide) d_Parser_parseRange_94 ?_
                  refine pq_put (D := (dC, dI)) (ci := 11) (v := .int (nI (nn (((a + 1) + 1) + 1)))) (ty := .int) (C := R_Side) (T := F_Side) (N := 5) hx hb hts i_Side t_Side t_Side_ok n_Side hown hK hP hD hS (gL_m hL hs (by decide)) (gE_3 (G := (gN (gO G sd 2 (some (pp a))) sd 3 (nn (a + 1)))) hs) rfl 4 (by decide) (hts _ k_626) (fun _ h9 => h9) rfl (by decide +kernel) rfl rfl (Nat.le_of_ble_eq_true rfl) (uE_3_4 (G := (gN (gO G sd 2 (some (pp a))) sd 3 (nn (a + 1)))) (v := nn (((a + 1) + 1) + 1)) hs) d_Parser_parseRange_95 (fun H locs hP hD hS => ?_)
                  have hP : va_P (dC, dI) cl ([(qn, .inl (cI, 1001, .inl (nF nn))), (qh, .inl (cL, 1001, .inr (.inl fh))), (qe, .inl (cL, 1001, .inr (.inl fl))), (qp, .inr (3, [.ref qc, .ref qt, .ref qf, .int (nI ((((a + 1) + 1) + 1) + 1))])), (qt, .inr (1, [w0, w1, .ref qk, .ref ql, .ref qn, .ref qh, .ref qe])), (qk, .inl (cI, 1001, .inl fk)), (ql, .inl (cI, 1001, .inl (nF pp))), (qf, .inr (2, [v0, v1]))] ++ va_pl L (gE cO (gN (gN (gO G sd 2 (some (pp a))) sd 3 (nn (a + 1))) sd 4 (nn (((a + 1) + 1) + 1))))) H := hP
                  have hD : va_D A ([(qn, .inl (cI, 1001, .inl (nF nn))), (qh, .inl (cL, 1001, .inr (.inl fh))), (qe, .inl (cL, 1001, .inr (.inl fl))), (qp, .inr (3, [.ref qc, .ref qt, .ref qf, .int (nI ((((a + 1) + 1) + 1) + 1))])), (qt, .inr (1, [w0, w1, .ref qk, .ref ql, .ref qn, .ref qh, .ref qe])), (qk, .inl (cI, 1001, .inl fk)), (ql, .inl (cI, 1001, .inl (nF pp))), (qf, .inr (2, [v0, v1]))] ++ va_pl L (gE cO (gN (gN (gO G sd 2 (some (pp a))) sd 3 (nn (a + 1))) sd 4 (nn (((a + 1) + 1) + 1))))) := hD
                  refine lv_aload_n hx hb d_Parser_parseRange_98 rfl (lv_at hl 3 rfl) ?_
                  refine lv_bipush (v := nI 93) hx hb d_Parser_parseRange_99 (by decide) ?_
                  refine we_i (cx := [(qp, .inr (3, [.ref qc, .ref qt, .ref qf, .int (nI ((((a + 1) + 1) + 1) + 1))])), (qt, .inr (1, [w0, w1, .ref qk, .ref ql, .ref qn, .ref qh, .ref qe])), (qk, .inl (cI, 1001, .inl fk)), (ql, .inl (cI, 1001, .inl (nF pp))), (qf, .inr (2, [v0, v1]))]) (wr := [(qn, .inl (cI, 1001, .inl (nF nn))), (qh, .inl (cL, 1001, .inr (.inl fh))), (qe, .inl (cL, 1001, .inr (.inl fl)))]) (pl := va_pl L (gE cO (gN (gN (gO G sd 2 (some (pp a))) sd 3 (nn (a + 1))) sd 4 (nn (((a + 1) + 1) + 1))))) (va_runV (As := [.int (nI 93)]) (rest := []) ⟨hx, hb, hml, hown, hts⟩ (c_Parser_want l dC dI cB cI cL cZ cC cO qp qc qt qf qk ql v0 v1 fk (nF pp) ((((a + 1) + 1) + 1) + 1) (nI 93) _ (by omega)) (cwV 1 hts (good_V k_529 k_531 s_Parser_want k_4 k_532) rfl rfl rfl (by decide +kernel) ⟨Nat.le_of_ble_eq_true rfl, Nat.le_of_ble_eq_true rfl⟩) (wc_preV (k0 := 3) (ci := 3) (r := (R_Parser, F_Parser, 4)) hK hP hD hS hA hF [3, 4, 5, 6, 7] (by decide) rfl rfl rfl) rfl rfl hl.1 rfl (lv_room (Nat.le_of_ble_eq_true rfl)) d_Parser_parseRange_101 ⟨Nat.le_of_ble_eq_true rfl, Nat.le_of_ble_eq_true rfl⟩) hP hD hS hA [3, 4, 5, 6, 7] [0, 1, 2] rfl rfl (by decide) (by decide) (fun r_24 u_22 H locs w_23 hP hD hS => ?_)
                  have hP : va_P (dC, dI) cl ([(qn, .inl (cI, 1001, .inl (nF nn))), (qh, .inl (cL, 1001, .inr (.inl fh))), (qe, .inl (cL, 1001, .inr (.inl fl))), (qp, .inr (3, [.ref qc, .ref qt, .ref qf, .int (nI u_22.1)])), (qt, .inr (1, [w0, w1, .ref qk, .ref ql, .ref qn, .ref qh, .ref qe])), (qk, .inl (cI, 1001, .inl fk)), (ql, .inl (cI, 1001, .inl (nF pp))), (qf, .inr (2, [u_22.2.1, u_22.2.2]))] ++ va_pl L (gE cO (gN (gN (gO G sd 2 (some (pp a))) sd 3 (nn (a + 1))) sd 4 (nn (((a + 1) + 1) + 1))))) H := hP
                  have hD : va_D A ([(qn, .inl (cI, 1001, .inl (nF nn))), (qh, .inl (cL, 1001, .inr (.inl fh))), (qe, .inl (cL, 1001, .inr (.inl fl))), (qp, .inr (3, [.ref qc, .ref qt, .ref qf, .int (nI u_22.1)])), (qt, .inr (1, [w0, w1, .ref qk, .ref ql, .ref qn, .ref qh, .ref qe])), (qk, .inl (cI, 1001, .inl fk)), (ql, .inl (cI, 1001, .inl (nF pp))), (qf, .inr (2, [u_22.2.1, u_22.2.2]))] ++ va_pl L (gE cO (gN (gN (gO G sd 2 (some (pp a))) sd 3 (nn (a + 1))) sd 4 (nn (((a + 1) + 1) + 1))))) := hD
                  obtain ⟨r_24e, u_22e⟩ := w_23
                  subst r_24e
                  by_cases tk_21 : wt_ok fk ((((a + 1) + 1) + 1) + 1) (nI 93) = true
                  · rw [wt_T tk_21] at u_22e
                    subst u_22e
                    have hb_tk_21 : ((((a + 1) + 1) + 1) + 1) < 1000 := wt_lt tk_21
                    have hP : va_P (dC, dI) cl ([(qn, .inl (cI, 1001, .inl (nF nn))), (qh, .inl (cL, 1001, .inr (.inl fh))), (qe, .inl (cL, 1001, .inr (.inl fl))), (qp, .inr (3, [.ref qc, .ref qt, .ref qf, .int (nI (((((a + 1) + 1) + 1) + 1) + 1))])), (qt, .inr (1, [w0, w1, .ref qk, .ref ql, .ref qn, .ref qh, .ref qe])), (qk, .inl (cI, 1001, .inl fk)), (ql, .inl (cI, 1001, .inl (nF pp))), (qf, .inr (2, [v0, v1]))] ++ va_pl L (gE cO (gN (gN (gO G sd 2 (some (pp a))) sd 3 (nn (a + 1))) sd 4 (nn (((a + 1) + 1) + 1))))) H := hP
                    have hD : va_D A ([(qn, .inl (cI, 1001, .inl (nF nn))), (qh, .inl (cL, 1001, .inr (.inl fh))), (qe, .inl (cL, 1001, .inr (.inl fl))), (qp, .inr (3, [.ref qc, .ref qt, .ref qf, .int (nI (((((a + 1) + 1) + 1) + 1) + 1))])), (qt, .inr (1, [w0, w1, .ref qk, .ref ql, .ref qn, .ref qh, .ref qe])), (qk, .inl (cI, 1001, .inl fk)), (ql, .inl (cI, 1001, .inl (nF pp))), (qf, .inr (2, [v0, v1]))] ++ va_pl L (gE cO (gN (gN (gO G sd 2 (some (pp a))) sd 3 (nn (a + 1))) sd 4 (nn (((a + 1) + 1) + 1))))) := hD
                    have hX : prg fk pp nn sd a v0 v1 G = (true, (((((a + 1) + 1) + 1) + 1) + 1, v0, v1), gN (gN (gO G sd 2 (some (pp a))) sd 3 (nn (a + 1))) sd 4 (nn (((a + 1) + 1) + 1))) := by unfold prg; rw [if_pos tk_1, if_pos tk_6, if_pos tk_11, if_pos tk_16, wt_T tk_21, tk_21]
                    exact wr_z (x := wt_ok fk ((((a + 1) + 1) + 1) + 1) (nI 93)) hx hb hr hlocks ((((((a + 1) + 1) + 1) + 1) + 1, v0, v1), gN (gN (gO G sd 2 (some (pp a))) sd 3 (nn (a + 1))) sd 4 (nn (((a + 1) + 1) + 1))) ⟨by rw [hX, tk_21], by rw [hX]⟩ hK (hP.part [3, 4, 5, 6, 0, 1, 2, 7] rfl) (hD.part [3, 4, 5, 6, 0, 1, 2, 7] (by decide) rfl) hS d_Parser_parseRange_104
                  · have tk_21 : wt_ok fk ((((a + 1) + 1) + 1) + 1) (nI 93) = false := by simpa using tk_21
                    rw [wt_F tk_21] at u_22e
                    subst u_22e
                    have hP : va_P (dC, dI) cl ([(qn, .inl (cI, 1001, .inl (nF nn))), (qh, .inl (cL, 1001, .inr (.inl fh))), (qe, .inl (cL, 1001, .inr (.inl fl))), (qp, .inr (3, [.ref qc, .ref qt, .ref qf, .int (nI ((((a + 1) + 1) + 1) + 1))])), (qt, .inr (1, [w0, w1, .ref qk, .ref ql, .ref qn, .ref qh, .ref qe])), (qk, .inl (cI, 1001, .inl fk)), (ql, .inl (cI, 1001, .inl (nF pp))), (qf, .inr (2, [.int (if fk ((((a + 1) + 1) + 1) + 1) = nI 2 then nI 2 else nI 1), .int (nI (pp ((((a + 1) + 1) + 1) + 1)))]))] ++ va_pl L (gE cO (gN (gN (gO G sd 2 (some (pp a))) sd 3 (nn (a + 1))) sd 4 (nn (((a + 1) + 1) + 1))))) H := hP
                    have hD : va_D A ([(qn, .inl (cI, 1001, .inl (nF nn))), (qh, .inl (cL, 1001, .inr (.inl fh))), (qe, .inl (cL, 1001, .inr (.inl fl))), (qp, .inr (3, [.ref qc, .ref qt, .ref qf, .int (nI ((((a + 1) + 1) + 1) + 1))])), (qt, .inr (1, [w0, w1, .ref qk, .ref ql, .ref qn, .ref qh, .ref qe])), (qk, .inl (cI, 1001, .inl fk)), (ql, .inl (cI, 1001, .inl (nF pp))), (qf, .inr (2, [.int (if fk ((((a + 1) + 1) + 1) + 1) = nI 2 then nI 2 else nI 1), .int (nI (pp ((((a + 1) + 1) + 1) + 1)))]))] ++ va_pl L (gE cO (gN (gN (gO G sd 2 (some (pp a))) sd 3 (nn (a + 1))) sd 4 (nn (((a + 1) + 1) + 1))))) := hD
                    have hX : prg fk pp nn sd a v0 v1 G = (false, ((((a + 1) + 1) + 1) + 1, .int (if fk ((((a + 1) + 1) + 1) + 1) = nI 2 then nI 2 else nI 1), .int (nI (pp ((((a + 1) + 1) + 1) + 1)))), gN (gN (gO G sd 2 (some (pp a))) sd 3 (nn (a + 1))) sd 4 (nn (((a + 1) + 1) + 1))) := by unfold prg; rw [if_pos tk_1, if_pos tk_6, if_pos tk_11, if_pos tk_16, wt_F tk_21, tk_21]
                    exact wr_z (x := wt_ok fk ((((a + 1) + 1) + 1) + 1) (nI 93)) hx hb hr hlocks (((((a + 1) + 1) + 1) + 1, .int (if fk ((((a + 1) + 1) + 1) + 1) = nI 2 then nI 2 else nI 1), .int (nI (pp ((((a + 1) + 1) + 1) + 1)))), gN (gN (gO G sd 2 (some (pp a))) sd 3 (nn (a + 1))) sd 4 (nn (((a + 1) + 1) + 1))) ⟨by rw [hX, tk_21], by rw [hX]⟩ hK (hP.part [3, 4, 5, 6, 0, 1, 2, 7] rfl) (hD.part [3, 4, 5, 6, 0, 1, 2, 7] (by decide) rfl) hS d_Parser_parseRange_104
                · exact absurd (tk_16.symm.trans c_20) (by decide)
              · have tk_16 : wt_ok fk (((a + 1) + 1) + 1) (nI 4) = false := by simpa using tk_16
                rw [wt_F tk_16] at u_17e
                subst u_17e
                have hP : va_P (dC, dI) cl ([(qn, .inl (cI, 1001, .inl (nF nn))), (qh, .inl (cL, 1001, .inr (.inl fh))), (qe, .inl (cL, 1001, .inr (.inl fl))), (qp, .inr (3, [.ref qc, .ref qt, .ref qf, .int (nI (((a + 1) + 1) + 1))])), (qt, .inr (1, [w0, w1, .ref qk, .ref ql, .ref qn, .ref qh, .ref qe])), (qk, .inl (cI, 1001, .inl fk)), (ql, .inl (cI, 1001, .inl (nF pp))), (qf, .inr (2, [.int (if fk (((a + 1) + 1) + 1) = nI 2 then nI 2 else nI 1), .int (nI (pp (((a + 1) + 1) + 1)))]))] ++ va_pl L (gE cO G)) H := hP
                have hD : va_D A ([(qn, .inl (cI, 1001, .inl (nF nn))), (qh, .inl (cL, 1001, .inr (.inl fh))), (qe, .inl (cL, 1001, .inr (.inl fl))), (qp, .inr (3, [.ref qc, .ref qt, .ref qf, .int (nI (((a + 1) + 1) + 1))])), (qt, .inr (1, [w0, w1, .ref qk, .ref ql, .ref qn, .ref qh, .ref qe])), (qk, .inl (cI, 1001, .inl fk)), (ql, .inl (cI, 1001, .inl (nF pp))), (qf, .inr (2, [.int (if fk (((a + 1) + 1) + 1) = nI 2 then nI 2 else nI 1), .int (nI (pp (((a + 1) + 1) + 1)))]))] ++ va_pl L (gE cO G)) := hD
                refine nv_bif_ne (tgt := 58) hx hb d_Parser_parseRange_53 (by decide) (fun c_25 => ?_) (fun c_25 => ?_)
                · exact absurd (tk_16.symm.trans c_25) (by decide)
                · refine lv_iconst (v := nI 0) hx hb d_Parser_parseRange_56 (by decide) ?_
                  have hX : prg fk pp nn sd a v0 v1 G = (false, (((a + 1) + 1) + 1, .int (if fk (((a + 1) + 1) + 1) = nI 2 then nI 2 else nI 1), .int (nI (pp (((a + 1) + 1) + 1)))), G) := by unfold prg; rw [if_pos tk_1, if_pos tk_6, if_pos tk_11, if_neg (by rw [tk_16]; decide), wt_F tk_16]
                  exact wr_z (x := false) hx hb hr hlocks ((((a + 1) + 1) + 1, .int (if fk (((a + 1) + 1) + 1) = nI 2 then nI 2 else nI 1), .int (nI (pp (((a + 1) + 1) + 1)))), G) ⟨by rw [hX], by rw [hX]⟩ hK (hP.part [3, 4, 5, 6, 0, 1, 2, 7] rfl) (hD.part [3, 4, 5, 6, 0, 1, 2, 7] (by decide) rfl) hS d_Parser_parseRange_57
          · have tk_11 : wt_ok fk ((a + 1) + 1) (nI 5) = false := by simpa using tk_11
            rw [if_neg (by rw [tk_11]; decide)] at u_12e
            replace u_12e := u_12e.symm
            subst u_12e
            refine nv_bif_eq (tgt := 58) hx hb d_Parser_parseRange_39 (by decide) (fun c_26 => ?_) (fun c_26 => ?_)
            · refine lv_aload_n hx hb d_Parser_parseRange_58 rfl (lv_at hl 4 rfl) ?_
              refine lv_aload_n hx hb d_Parser_parseRange_59 rfl (lv_at hl 3 rfl) ?_
              refine va_get (D := (dC, dI)) (ci := 3) (v := .ref qt) (C := R_Parser) (T := F_Parser) (N := 4) hx hb hts i_Parser hown hK hP 5 rfl rfl 1 (by decide) (hts _ k_117) (fun _ h9 => h9) rfl d_Parser_parseRange_60 ?_
              refine va_get (D := (dC, dI)) (ci := 1) (v := .ref ql) (C := R_Text) (T := F_Text) (N := 7) hx hb hts i_Text hown hK hP 6 rfl rfl 3 (by decide) (hts _ k_43) (fun _ h9 => h9) rfl d_Parser_parseRange_63 ?_
              refine lv_iload_n hx hb d_Parser_parseRange_66 rfl (lv_at hl 2 rfl) ?_
              refine nv_iald hx hb hK hP 3 1 rfl rfl (by omega) (by decide) d_Parser_parseRange_67 ?_
              refine pq_put (D := (dC, dI)) (ci := 11) (v := .int (oI (some (pp a)))) (ty := .int) (C := R_Side) (T := F_Side) (N := 5) hx hb hts i_Side t_Side t_Side_ok n_Side hown hK hP hD hS (gL_m hL hs (by decide)) (gE_3 (G := G) hs) rfl 2 (by decide) (hts _ k_621) (fun _ h9 => h9) rfl (by decide +kernel) rfl rfl (Nat.le_of_ble_eq_true rfl) (uE_3_2 (G := G) (v := some (pp a)) hs) d_Parser_parseRange_68 (fun H locs hP hD hS => ?_)
              have hP : va_P (dC, dI) cl ([(qn, .inl (cI, 1001, .inl (nF nn))), (qh, .inl (cL, 1001, .inr (.inl fh))), (qe, .inl (cL, 1001, .inr (.inl fl))), (ql, .inl (cI, 1001, .inl (nF pp))), (qf, .inr (2, [v0, v1])), (qp, .inr (3, [.ref qc, .ref qt, .ref qf, .int (nI ((a + 1) + 1))])), (qt, .inr (1, [w0, w1, .ref qk, .ref ql, .ref qn, .ref qh, .ref qe])), (qk, .inl (cI, 1001, .inl fk))] ++ va_pl L (gE cO (gO G sd 2 (some (pp a))))) H := hP
              have hD : va_D A ([(qn, .inl (cI, 1001, .inl (nF nn))), (qh, .inl (cL, 1001, .inr (.inl fh))), (qe, .inl (cL, 1001, .inr (.inl fl))), (ql, .inl (cI, 1001, .inl (nF pp))), (qf, .inr (2, [v0, v1])), (qp, .inr (3, [.ref qc, .ref qt, .ref qf, .int (nI ((a + 1) + 1))])), (qt, .inr (1, [w0, w1, .ref qk, .ref ql, .ref qn, .ref qh, .ref qe])), (qk, .inl (cI, 1001, .inl fk))] ++ va_pl L (gE cO (gO G sd 2 (some (pp a))))) := hD
              refine lv_aload_n hx hb d_Parser_parseRange_71 rfl (lv_at hl 4 rfl) ?_
              refine lv_aload_n hx hb d_Parser_parseRange_72 rfl (lv_at hl 3 rfl) ?_
              refine va_get (D := (dC, dI)) (ci := 3) (v := .ref qt) (C := R_Parser) (T := F_Parser) (N := 4) hx hb hts i_Parser hown hK hP 5 rfl rfl 1 (by decide) (hts _ k_117) (fun _ h9 => h9) rfl d_Parser_parseRange_73 ?_
              refine va_get (D := (dC, dI)) (ci := 1) (v := .ref qn) (C := R_Text) (T := F_Text) (N := 7) hx hb hts i_Text hown hK hP 6 rfl rfl 4 (by decide) (hts _ k_45) (fun _ h9 => h9) rfl d_Parser_parseRange_76 ?_
              refine lv_iload_n hx hb d_Parser_parseRange_79 rfl (lv_at hl 1 rfl) ?_
              refine nv_iald hx hb hK hP 0 1 rfl rfl (by omega) (by decide) d_Parser_parseRange_80 ?_
              refine pq_put (D := (dC, dI)) (ci := 11) (v := .int (nI (nn (a + 1)))) (ty := .int) (C := R_Side) (T := F_Side) (N := 5) hx hb hts i_Side t_Side t_Side_ok n_Side hown hK hP hD hS (gL_m hL hs (by decide)) (gE_3 (G := (gO G sd 2 (some (pp a)))) hs) rfl 3 (by decide) (hts _ k_624) (fun _ h9 => h9) rfl (by decide +kernel) rfl rfl (Nat.le_of_ble_eq_true rfl) (uE_3_3 (G := (gO G sd 2 (some (pp a)))) (v := nn (a + 1)) hs) d_Parser_parseRange_81 (fun H locs hP hD hS => ?_)
              have hP : va_P (dC, dI) cl ([(qn, .inl (cI, 1001, .inl (nF nn))), (qh, .inl (cL, 1001, .inr (.inl fh))), (qe, .inl (cL, 1001, .inr (.inl fl))), (ql, .inl (cI, 1001, .inl (nF pp))), (qf, .inr (2, [v0, v1])), (qp, .inr (3, [.ref qc, .ref qt, .ref qf, .int (nI ((a + 1) + 1))])), (qt, .inr (1, [w0, w1, .ref qk, .ref ql, .ref qn, .ref qh, .ref qe])), (qk, .inl (cI, 1001, .inl fk))] ++ va_pl L (gE cO (gN (gO G sd 2 (some (pp a))) sd 3 (nn (a + 1))))) H := hP
              have hD : va_D A ([(qn, .inl (cI, 1001, .inl (nF nn))), (qh, .inl (cL, 1001, .inr (.inl fh))), (qe, .inl (cL, 1001, .inr (.inl fl))), (ql, .inl (cI, 1001, .inl (nF pp))), (qf, .inr (2, [v0, v1])), (qp, .inr (3, [.ref qc, .ref qt, .ref qf, .int (nI ((a + 1) + 1))])), (qt, .inr (1, [w0, w1, .ref qk, .ref ql, .ref qn, .ref qh, .ref qe])), (qk, .inl (cI, 1001, .inl fk))] ++ va_pl L (gE cO (gN (gO G sd 2 (some (pp a))) sd 3 (nn (a + 1))))) := hD
              refine lv_aload_n hx hb d_Parser_parseRange_84 rfl (lv_at hl 4 rfl) ?_
              refine lv_aload_n hx hb d_Parser_parseRange_85 rfl (lv_at hl 3 rfl) ?_
              refine va_get (D := (dC, dI)) (ci := 3) (v := .ref qt) (C := R_Parser) (T := F_Parser) (N := 4) hx hb hts i_Parser hown hK hP 5 rfl rfl 1 (by decide) (hts _ k_117) (fun _ h9 => h9) rfl d_Parser_parseRange_86 ?_
              refine va_get (D := (dC, dI)) (ci := 1) (v := .ref qn) (C := R_Text) (T := F_Text) (N := 7) hx hb hts i_Text hown hK hP 6 rfl rfl 4 (by decide) (hts _ k_45) (fun _ h9 => h9) rfl d_Parser_parseRange_89 ?_
              refine lv_iload hx hb d_Parser_parseRange_92 (lv_at hl 0 rfl) ?_
              refine nv_iald hx hb hK hP 0 1 rfl rfl (by omega) (by decide) d_Parser_parseRange_94 ?_
              refine pq_put (D := (dC, dI)) (ci := 11) (v := .int (nI (nn (a + 1)))) (ty := .int) (C := R_Side) (T := F_Side) (N := 5) hx hb hts i_Side t_Side t_Side_ok n_Side hown hK hP hD hS (gL_m hL hs (by decide)) (gE_3 (G := (gN (gO G sd 2 (some (pp a))) sd 3 (nn (a + 1)))) hs) rfl 4 (by decide) (hts _ k_626) (fun _ h9 => h9) rfl (by decide +kernel) rfl rfl (Nat.le_of_ble_eq_true rfl) (uE_3_4 (G := (gN (gO G sd 2 (some (pp a))) sd 3 (nn (a + 1)))) (v := nn (a + 1)) hs) d_Parser_parseRange_95 (fun H locs hP hD hS => ?_)
              have hP : va_P (dC, dI) cl ([(qn, .inl (cI, 1001, .inl (nF nn))), (qh, .inl (cL, 1001, .inr (.inl fh))), (qe, .inl (cL, 1001, .inr (.inl fl))), (ql, .inl (cI, 1001, .inl (nF pp))), (qf, .inr (2, [v0, v1])), (qp, .inr (3, [.ref qc, .ref qt, .ref qf, .int (nI ((a + 1) + 1))])), (qt, .inr (1, [w0, w1, .ref qk, .ref ql, .ref qn, .ref qh, .ref qe])), (qk, .inl (cI, 1001, .inl fk))] ++ va_pl L (gE cO (gN (gN (gO G sd 2 (some (pp a))) sd 3 (nn (a + 1))) sd 4 (nn (a + 1))))) H := hP
              have hD : va_D A ([(qn, .inl (cI, 1001, .inl (nF nn))), (qh, .inl (cL, 1001, .inr (.inl fh))), (qe, .inl (cL, 1001, .inr (.inl fl))), (ql, .inl (cI, 1001, .inl (nF pp))), (qf, .inr (2, [v0, v1])), (qp, .inr (3, [.ref qc, .ref qt, .ref qf, .int (nI ((a + 1) + 1))])), (qt, .inr (1, [w0, w1, .ref qk, .ref ql, .ref qn, .ref qh, .ref qe])), (qk, .inl (cI, 1001, .inl fk))] ++ va_pl L (gE cO (gN (gN (gO G sd 2 (some (pp a))) sd 3 (nn (a + 1))) sd 4 (nn (a + 1))))) := hD
              refine lv_aload_n hx hb d_Parser_parseRange_98 rfl (lv_at hl 3 rfl) ?_
              refine lv_bipush (v := nI 93) hx hb d_Parser_parseRange_99 (by decide) ?_
              refine we_i (cx := [(qp, .inr (3, [.ref qc, .ref qt, .ref qf, .int (nI ((a + 1) + 1))])), (qt, .inr (1, [w0, w1, .ref qk, .ref ql, .ref qn, .ref qh, .ref qe])), (qk, .inl (cI, 1001, .inl fk)), (ql, .inl (cI, 1001, .inl (nF pp))), (qf, .inr (2, [v0, v1]))]) (wr := [(qn, .inl (cI, 1001, .inl (nF nn))), (qh, .inl (cL, 1001, .inr (.inl fh))), (qe, .inl (cL, 1001, .inr (.inl fl)))]) (pl := va_pl L (gE cO (gN (gN (gO G sd 2 (some (pp a))) sd 3 (nn (a + 1))) sd 4 (nn (a + 1))))) (va_runV (As := [.int (nI 93)]) (rest := []) ⟨hx, hb, hml, hown, hts⟩ (c_Parser_want l dC dI cB cI cL cZ cC cO qp qc qt qf qk ql v0 v1 fk (nF pp) ((a + 1) + 1) (nI 93) _ (by omega)) (cwV 1 hts (good_V k_529 k_531 s_Parser_want k_4 k_532) rfl rfl rfl (by decide +kernel) ⟨Nat.le_of_ble_eq_true rfl, Nat.le_of_ble_eq_true rfl⟩) (wc_preV (k0 := 5) (ci := 3) (r := (R_Parser, F_Parser, 4)) hK hP hD hS hA hF [5, 6, 7, 3, 4] (by decide) rfl rfl rfl) rfl rfl hl.1 rfl (lv_room (Nat.le_of_ble_eq_true rfl)) d_Parser_parseRange_101 ⟨Nat.le_of_ble_eq_true rfl, Nat.le_of_ble_eq_true rfl⟩) hP hD hS hA [5, 6, 7, 3, 4] [0, 1, 2] rfl rfl (by decide) (by decide) (fun r_30 u_28 H locs w_29 hP hD hS => ?_)
              have hP : va_P (dC, dI) cl ([(qn, .inl (cI, 1001, .inl (nF nn))), (qh, .inl (cL, 1001, .inr (.inl fh))), (qe, .inl (cL, 1001, .inr (.inl fl))), (qp, .inr (3, [.ref qc, .ref qt, .ref qf, .int (nI u_28.1)])), (qt, .inr (1, [w0, w1, .ref qk, .ref ql, .ref qn, .ref qh, .ref qe])), (qk, .inl (cI, 1001, .inl fk)), (ql, .inl (cI, 1001, .inl (nF pp))), (qf, .inr (2, [u_28.2.1, u_28.2.2]))] ++ va_pl L (gE cO (gN (gN (gO G sd 2 (some (pp a))) sd 3 (nn (a + 1))) sd 4 (nn (a + 1))))) H := hP
              have hD : va_D A ([(qn, .inl (cI, 1001, .inl (nF nn))), (qh, .inl (cL, 1001, .inr (.inl fh))), (qe, .inl (cL, 1001, .inr (.inl fl))), (qp, .inr (3, [.ref qc, .ref qt, .ref qf, .int (nI u_28.1)])), (qt, .inr (1, [w0, w1, .ref qk, .ref ql, .ref qn, .ref qh, .ref qe])), (qk, .inl (cI, 1001, .inl fk)), (ql, .inl (cI, 1001, .inl (nF pp))), (qf, .inr (2, [u_28.2.1, u_28.2.2]))] ++ va_pl L (gE cO (gN (gN (gO G sd 2 (some (pp a))) sd 3 (nn (a + 1))) sd 4 (nn (a + 1))))) := hD
              obtain ⟨r_30e, u_28e⟩ := w_29
              subst r_30e
              by_cases tk_27 : wt_ok fk ((a + 1) + 1) (nI 93) = true
              · rw [wt_T tk_27] at u_28e
                subst u_28e
                have hb_tk_27 : ((a + 1) + 1) < 1000 := wt_lt tk_27
                have hP : va_P (dC, dI) cl ([(qn, .inl (cI, 1001, .inl (nF nn))), (qh, .inl (cL, 1001, .inr (.inl fh))), (qe, .inl (cL, 1001, .inr (.inl fl))), (qp, .inr (3, [.ref qc, .ref qt, .ref qf, .int (nI (((a + 1) + 1) + 1))])), (qt, .inr (1, [w0, w1, .ref qk, .ref ql, .ref qn, .ref qh, .ref qe])), (qk, .inl (cI, 1001, .inl fk)), (ql, .inl (cI, 1001, .inl (nF pp))), (qf, .inr (2, [v0, v1]))] ++ va_pl L (gE cO (gN (gN (gO G sd 2 (some (pp a))) sd 3 (nn (a + 1))) sd 4 (nn (a + 1))))) H := hP
                have hD : va_D A ([(qn, .inl (cI, 1001, .inl (nF nn))), (qh, .inl (cL, 1001, .inr (.inl fh))), (qe, .inl (cL, 1001, .inr (.inl fl))), (qp, .inr (3, [.ref qc, .ref qt, .ref qf, .int (nI (((a + 1) + 1) + 1))])), (qt, .inr (1, [w0, w1, .ref qk, .ref ql, .ref qn, .ref qh, .ref qe])), (qk, .inl (cI, 1001, .inl fk)), (ql, .inl (cI, 1001, .inl (nF pp))), (qf, .inr (2, [v0, v1]))] ++ va_pl L (gE cO (gN (gN (gO G sd 2 (some (pp a))) sd 3 (nn (a + 1))) sd 4 (nn (a + 1))))) := hD
                have hX : prg fk pp nn sd a v0 v1 G = (true, (((a + 1) + 1) + 1, v0, v1), gN (gN (gO G sd 2 (some (pp a))) sd 3 (nn (a + 1))) sd 4 (nn (a + 1))) := by unfold prg; rw [if_pos tk_1, if_pos tk_6, if_neg (by rw [tk_11]; decide), wt_T tk_27, tk_27]
                exact wr_z (x := wt_ok fk ((a + 1) + 1) (nI 93)) hx hb hr hlocks ((((a + 1) + 1) + 1, v0, v1), gN (gN (gO G sd 2 (some (pp a))) sd 3 (nn (a + 1))) sd 4 (nn (a + 1))) ⟨by rw [hX, tk_27], by rw [hX]⟩ hK (hP.part [3, 4, 5, 6, 0, 1, 2, 7] rfl) (hD.part [3, 4, 5, 6, 0, 1, 2, 7] (by decide) rfl) hS d_Parser_parseRange_104
              · have tk_27 : wt_ok fk ((a + 1) + 1) (nI 93) = false := by simpa using tk_27
                rw [wt_F tk_27] at u_28e
                subst u_28e
                have hP : va_P (dC, dI) cl ([(qn, .inl (cI, 1001, .inl (nF nn))), (qh, .inl (cL, 1001, .inr (.inl fh))), (qe, .inl (cL, 1001, .inr (.inl fl))), (qp, .inr (3, [.ref qc, .ref qt, .ref qf, .int (nI ((a + 1) + 1))])), (qt, .inr (1, [w0, w1, .ref qk, .ref ql, .ref qn, .ref qh, .ref qe])), (qk, .inl (cI, 1001, .inl fk)), (ql, .inl (cI, 1001, .inl (nF pp))), (qf, .inr (2, [.int (if fk ((a + 1) + 1) = nI 2 then nI 2 else nI 1), .int (nI (pp ((a + 1) + 1)))]))] ++ va_pl L (gE cO (gN (gN (gO G sd 2 (some (pp a))) sd 3 (nn (a + 1))) sd 4 (nn (a + 1))))) H := hP
                have hD : va_D A ([(qn, .inl (cI, 1001, .inl (nF nn))), (qh, .inl (cL, 1001, .inr (.inl fh))), (qe, .inl (cL, 1001, .inr (.inl fl))), (qp, .inr (3, [.ref qc, .ref qt, .ref qf, .int (nI ((a + 1) + 1))])), (qt, .inr (1, [w0, w1, .ref qk, .ref ql, .ref qn, .ref qh, .ref qe])), (qk, .inl (cI, 1001, .inl fk)), (ql, .inl (cI, 1001, .inl (nF pp))), (qf, .inr (2, [.int (if fk ((a + 1) + 1) = nI 2 then nI 2 else nI 1), .int (nI (pp ((a + 1) + 1)))]))] ++ va_pl L (gE cO (gN (gN (gO G sd 2 (some (pp a))) sd 3 (nn (a + 1))) sd 4 (nn (a + 1))))) := hD
                have hX : prg fk pp nn sd a v0 v1 G = (false, ((a + 1) + 1, .int (if fk ((a + 1) + 1) = nI 2 then nI 2 else nI 1), .int (nI (pp ((a + 1) + 1)))), gN (gN (gO G sd 2 (some (pp a))) sd 3 (nn (a + 1))) sd 4 (nn (a + 1))) := by unfold prg; rw [if_pos tk_1, if_pos tk_6, if_neg (by rw [tk_11]; decide), wt_F tk_27, tk_27]
                exact wr_z (x := wt_ok fk ((a + 1) + 1) (nI 93)) hx hb hr hlocks (((a + 1) + 1, .int (if fk ((a + 1) + 1) = nI 2 then nI 2 else nI 1), .int (nI (pp ((a + 1) + 1)))), gN (gN (gO G sd 2 (some (pp a))) sd 3 (nn (a + 1))) sd 4 (nn (a + 1))) ⟨by rw [hX, tk_27], by rw [hX]⟩ hK (hP.part [3, 4, 5, 6, 0, 1, 2, 7] rfl) (hD.part [3, 4, 5, 6, 0, 1, 2, 7] (by decide) rfl) hS d_Parser_parseRange_104
            · exact absurd (tk_11.symm.trans c_26) (by decide)
        · exact absurd (tk_6.symm.trans c_10) (by decide)
      · have tk_6 : wt_ok fk (a + 1) (nI 4) = false := by simpa using tk_6
        rw [wt_F tk_6] at u_7e
        subst u_7e
        have hP : va_P (dC, dI) cl ([(qn, .inl (cI, 1001, .inl (nF nn))), (qh, .inl (cL, 1001, .inr (.inl fh))), (qe, .inl (cL, 1001, .inr (.inl fl))), (qp, .inr (3, [.ref qc, .ref qt, .ref qf, .int (nI (a + 1))])), (qt, .inr (1, [w0, w1, .ref qk, .ref ql, .ref qn, .ref qh, .ref qe])), (qk, .inl (cI, 1001, .inl fk)), (ql, .inl (cI, 1001, .inl (nF pp))), (qf, .inr (2, [.int (if fk (a + 1) = nI 2 then nI 2 else nI 1), .int (nI (pp (a + 1)))]))] ++ va_pl L (gE cO G)) H := hP
        have hD : va_D A ([(qn, .inl (cI, 1001, .inl (nF nn))), (qh, .inl (cL, 1001, .inr (.inl fh))), (qe, .inl (cL, 1001, .inr (.inl fl))), (qp, .inr (3, [.ref qc, .ref qt, .ref qf, .int (nI (a + 1))])), (qt, .inr (1, [w0, w1, .ref qk, .ref ql, .ref qn, .ref qh, .ref qe])), (qk, .inl (cI, 1001, .inl fk)), (ql, .inl (cI, 1001, .inl (nF pp))), (qf, .inr (2, [.int (if fk (a + 1) = nI 2 then nI 2 else nI 1), .int (nI (pp (a + 1)))]))] ++ va_pl L (gE cO G)) := hD
        refine nv_bif_ne (tgt := 31) hx hb d_Parser_parseRange_26 (by decide) (fun c_31 => ?_) (fun c_31 => ?_)
        · exact absurd (tk_6.symm.trans c_31) (by decide)
        · refine lv_iconst (v := nI 0) hx hb d_Parser_parseRange_29 (by decide) ?_
          have hX : prg fk pp nn sd a v0 v1 G = (false, (a + 1, .int (if fk (a + 1) = nI 2 then nI 2 else nI 1), .int (nI (pp (a + 1)))), G) := by unfold prg; rw [if_pos tk_1, if_neg (by rw [tk_6]; decide), wt_F tk_6]
          exact wr_z (x := false) hx hb hr hlocks ((a + 1, .int (if fk (a + 1) = nI 2 then nI 2 else nI 1), .int (nI (pp (a + 1)))), G) ⟨by rw [hX], by rw [hX]⟩ hK (hP.part [3, 4, 5, 6, 0, 1, 2, 7] rfl) (hD.part [3, 4, 5, 6, 0, 1, 2, 7] (by decide) rfl) hS d_Parser_parseRange_30
    · exact absurd (tk_1.symm.trans c_5) (by decide)
  · have tk_1 : wt_ok fk a (nI 91) = false := by simpa using tk_1
    rw [if_neg (by rw [tk_1]; decide)] at u_2e
    replace u_2e := u_2e.symm
    subst u_2e
    refine nv_bif_ne (tgt := 16) hx hb d_Parser_parseRange_11 (by decide) (fun c_32 => ?_) (fun c_32 => ?_)
    · exact absurd (tk_1.symm.trans c_32) (by decide)
    · refine lv_iconst (v := nI 1) hx hb d_Parser_parseRange_14 (by decide) ?_
      have hX : prg fk pp nn sd a v0 v1 G = (true, (a, v0, v1), G) := by unfold prg; rw [if_neg (by rw [tk_1]; decide)]
      exact wr_z (x := true) hx hb hr hlocks ((a, v0, v1), G) ⟨by rw [hX], by rw [hX]⟩ hK (hP.part [5, 6, 7, 0, 1, 2, 3, 4] rfl) (hD.part [5, 6, 7, 0, 1, 2, 3, 4] (by decide) rfl) hS d_Parser_parseRange_15
