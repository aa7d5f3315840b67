theorem d_Parser_parse_0 : decode b_Parser_parse 0 = .ok (.aload_n 0, 1) := by decide +kernel
theorem d_Parser_parse_1 : decode b_Parser_parse 1 = .ok (.iconst 0, 1) := by decide +kernel
theorem d_Parser_parse_2 : decode b_Parser_parse 2 = .ok (.putfield 16, 3) := by decide +kernel
theorem d_Parser_parse_5 : decode b_Parser_parse 5 = .ok (.aload_n 0, 1) := by decide +kernel
theorem d_Parser_parse_6 : decode b_Parser_parse 6 = .ok (.getfield 10, 3) := by decide +kernel
theorem d_Parser_parse_9 : decode b_Parser_parse 9 = .ok (.invokevirtual 28, 3) := by decide +kernel
theorem d_Parser_parse_12 : decode b_Parser_parse 12 = .ok (.iconst 0, 1) := by decide +kernel
theorem d_Parser_parse_13 : decode b_Parser_parse 13 = .ok (.istore_n 1, 1) := by decide +kernel
theorem d_Parser_parse_14 : decode b_Parser_parse 14 = .ok (.iload_n 1, 1) := by decide +kernel
theorem d_Parser_parse_15 : decode b_Parser_parse 15 = .ok (.bipush 8, 2) := by decide +kernel
theorem d_Parser_parse_17 : decode b_Parser_parse 17 = .ok (.if_icmp .gt 78, 3) := by decide +kernel
theorem d_Parser_parse_20 : decode b_Parser_parse 20 = .ok (.aload_n 0, 1) := by decide +kernel
theorem d_Parser_parse_21 : decode b_Parser_parse 21 = .ok (.invokevirtual 31, 3) := by decide +kernel
theorem d_Parser_parse_24 : decode b_Parser_parse 24 = .ok (.astore_n 2, 1) := by decide +kernel
theorem d_Parser_parse_25 : decode b_Parser_parse 25 = .ok (.aload_n 2, 1) := by decide +kernel
theorem d_Parser_parse_26 : decode b_Parser_parse 26 = .ok (.ifnull 51, 3) := by decide +kernel
theorem d_Parser_parse_29 : decode b_Parser_parse 29 = .ok (.aload_n 0, 1) := by decide +kernel
theorem d_Parser_parse_30 : decode b_Parser_parse 30 = .ok (.aload_n 2, 1) := by decide +kernel
theorem d_Parser_parse_31 : decode b_Parser_parse 31 = .ok (.bipush 7, 2) := by decide +kernel
theorem d_Parser_parse_33 : decode b_Parser_parse 33 = .ok (.iconst 0, 1) := by decide +kernel
theorem d_Parser_parse_34 : decode b_Parser_parse 34 = .ok (.invokevirtual 39, 3) := by decide +kernel
theorem d_Parser_parse_37 : decode b_Parser_parse 37 = .ok (.ifCond .eq 40, 3) := by decide +kernel
theorem d_Parser_parse_40 : decode b_Parser_parse 40 = .ok (.aload_n 0, 1) := by decide +kernel
theorem d_Parser_parse_41 : decode b_Parser_parse 41 = .ok (.aload_n 2, 1) := by decide +kernel
theorem d_Parser_parse_42 : decode b_Parser_parse 42 = .ok (.bipush 8, 2) := by decide +kernel
theorem d_Parser_parse_44 : decode b_Parser_parse 44 = .ok (.iconst 1, 1) := by decide +kernel
theorem d_Parser_parse_45 : decode b_Parser_parse 45 = .ok (.invokevirtual 39, 3) := by decide +kernel
theorem d_Parser_parse_48 : decode b_Parser_parse 48 = .ok (.ifCond .eq 29, 3) := by decide +kernel
theorem d_Parser_parse_51 : decode b_Parser_parse 51 = .ok (.aload_n 0, 1) := by decide +kernel
theorem d_Parser_parse_52 : decode b_Parser_parse 52 = .ok (.bipush 9, 2) := by decide +kernel
theorem d_Parser_parse_54 : decode b_Parser_parse 54 = .ok (.invokevirtual 43, 3) := by decide +kernel
theorem d_Parser_parse_57 : decode b_Parser_parse 57 = .ok (.ifCond .eq 20, 3) := by decide +kernel
theorem d_Parser_parse_60 : decode b_Parser_parse 60 = .ok (.aload_n 0, 1) := by decide +kernel
theorem d_Parser_parse_61 : decode b_Parser_parse 61 = .ok (.bipush 58, 2) := by decide +kernel
theorem d_Parser_parse_63 : decode b_Parser_parse 63 = .ok (.invokevirtual 43, 3) := by decide +kernel
theorem d_Parser_parse_66 : decode b_Parser_parse 66 = .ok (.ifCond .eq 11, 3) := by decide +kernel
theorem d_Parser_parse_69 : decode b_Parser_parse 69 = .ok (.aload_n 0, 1) := by decide +kernel
theorem d_Parser_parse_70 : decode b_Parser_parse 70 = .ok (.aload_n 2, 1) := by decide +kernel
theorem d_Parser_parse_71 : decode b_Parser_parse 71 = .ok (.invokevirtual 47, 3) := by decide +kernel
theorem d_Parser_parse_74 : decode b_Parser_parse 74 = .ok (.ifCond .ne 5, 3) := by decide +kernel
theorem d_Parser_parse_77 : decode b_Parser_parse 77 = .ok (.iconst 0, 1) := by decide +kernel
theorem d_Parser_parse_78 : decode b_Parser_parse 78 = .ok (.ireturn, 1) := by decide +kernel
theorem d_Parser_parse_79 : decode b_Parser_parse 79 = .ok (.aload_n 0, 1) := by decide +kernel
theorem d_Parser_parse_80 : decode b_Parser_parse 80 = .ok (.iconst 0, 1) := by decide +kernel
theorem d_Parser_parse_81 : decode b_Parser_parse 81 = .ok (.invokevirtual 51, 3) := by decide +kernel
theorem d_Parser_parse_84 : decode b_Parser_parse 84 = .ok (.ifCond .eq 5, 3) := by decide +kernel
theorem d_Parser_parse_87 : decode b_Parser_parse 87 = .ok (.iconst 1, 1) := by decide +kernel
theorem d_Parser_parse_88 : decode b_Parser_parse 88 = .ok (.ireturn, 1) := by decide +kernel
theorem d_Parser_parse_89 : decode b_Parser_parse 89 = .ok (.iinc 1 1, 3) := by decide +kernel
theorem d_Parser_parse_92 : decode b_Parser_parse 92 = .ok (.goto (-78), 3) := by decide +kernel
theorem d_Parser_parse_95 : decode b_Parser_parse 95 = .ok (.iconst 0, 1) := by decide +kernel
theorem d_Parser_parse_96 : decode b_Parser_parse 96 = .ok (.ireturn, 1) := by decide +kernel
set_option maxHeartbeats 4000000 in
set_option maxRecDepth 100000 in
theorem lp_Parser_parse {p : Program} {l : Launch} {e : Env} {s : State} {m : MethodId} {args : Array Value} {below : List Frame} {meth : Method} {c : Code} {Q : State → Prop} {A : Nat → Prop} {dC : Nat → ClassId} {dI : Nat → Nat → Nat} {cB cI cL cZ cC cO : ClassId} {t0 : Nat} {qp qc qt qf qk ql qn qh qe : Nat} {w0 w1 : Value} {fk : Nat → Int32} {pp nn : Nat → Nat} {fh fl : Nat → Int64} {qna qdf T : Nat} {ft tv : Nat → Int32} {nv : Nat → Nat} {v0 v1 : Value} {X P0 : PS} (hk3 : ¬ fk 1000 = nI 3) (hnn : ∀ t, nn t ≤ 99) (hk10 : ¬ (fk 1000 = nI 10 ∨ fk 1000 = nI 11)) (hx : p.tables.exec = Jvm.exec) (hb : c.code = b_Parser_parse) (hml : c.maxLocals = 3) (hown : s.vm.findClass R_Parser = some m.cls) (hts : ∀ w ∈ tb, w.before args s = true) (hA : ∀ q, s.heap.size ≤ q → A q) (hF : stF A s) (hE : stE A t0 s) (hK : va_K (dC, dI) cl [(cB, .byte), (cI, .int), (cL, .long), (cZ, .boolean), (cC, .char), (cO, .object "java/lang/Object")] s)
    (kx : ∀ (a9 : Nat) (w8 w9 : Value) (L : List Nat) (G : PG) (H : Heap) (locs : List Loc) (ls : Array Slot), ¬ X.1 13 = 0 → (w8, w9) = ftv X → gL L G → RB t0 qc qna qdf G → va_P (dC, dI) cl ([(qp, .inr (3, [.ref qc, .ref qt, .ref qf, .int (nI a9)])), (qt, .inr (1, [w0, w1, .ref qk, .ref ql, .ref qn, .ref qh, .ref qe])), (qk, .inl (cI, 1001, .inl fk)), (ql, .inl (cI, 1001, .inl (nF pp))), (qn, .inl (cI, 1001, .inl (nF nn))), (qh, .inl (cL, 1001, .inr (.inl fh))), (qe, .inl (cL, 1001, .inr (.inl fl))), (qf, .inr (2, [w8, w9]))] ++ va_pl L (gE cO G)) H → va_D A ([(qp, .inr (3, [.ref qc, .ref qt, .ref qf, .int (nI a9)])), (qt, .inr (1, [w0, w1, .ref qk, .ref ql, .ref qn, .ref qh, .ref qe])), (qk, .inl (cI, 1001, .inl fk)), (ql, .inl (cI, 1001, .inl (nF pp))), (qn, .inl (cI, 1001, .inl (nF nn))), (qh, .inl (cL, 1001, .inr (.inl fh))), (qe, .inl (cL, 1001, .inr (.inl fl))), (qf, .inr (2, [w8, w9]))] ++ va_pl L (gE cO G)) → va_S A s.heap H locs → lv_has ls 3 [(0, .ref qp)] → W p l e (headSpec w_Parser_parse { frames := 14, cells := (kcc X P0), slots := (kss X P0), locals := 900 }).room s m args below meth c H locs (kcc X P0) (kss X P0) Q (F0 m 78 ls [.int (nI 0)])) (kz : ∀ (a9 : Nat) (w8 w9 : Value) (L : List Nat) (G : PG) (H : Heap) (locs : List Loc) (ls : Array Slot), X.1 13 = 0 → (a9, w8, w9) = (X.1 12, v0, v1) → gL L G → RE0 t0 qc qna qdf ft tv fh fl pp nn G X → PBd ft tv nv T fk pp nn fh fl X → va_P (dC, dI) cl ([(qp, .inr (3, [.ref qc, .ref qt, .ref qf, .int (nI a9)])), (qt, .inr (1, [w0, w1, .ref qk, .ref ql, .ref qn, .ref qh, .ref qe])), (qk, .inl (cI, 1001, .inl fk)), (ql, .inl (cI, 1001, .inl (nF pp))), (qn, .inl (cI, 1001, .inl (nF nn))), (qh, .inl (cL, 1001, .inr (.inl fh))), (qe, .inl (cL, 1001, .inr (.inl fl))), (qf, .inr (2, [w8, w9]))] ++ va_pl L (gE cO G)) H → va_D A ([(qp, .inr (3, [.ref qc, .ref qt, .ref qf, .int (nI a9)])), (qt, .inr (1, [w0, w1, .ref qk, .ref ql, .ref qn, .ref qh, .ref qe])), (qk, .inl (cI, 1001, .inl fk)), (ql, .inl (cI, 1001, .inl (nF pp))), (qn, .inl (cI, 1001, .inl (nF nn))), (qh, .inl (cL, 1001, .inr (.inl fh))), (qe, .inl (cL, 1001, .inr (.inl fl))), (qf, .inr (2, [w8, w9]))] ++ va_pl L (gE cO G)) → va_S A s.heap H locs → lv_has ls 3 [(0, .ref qp)] → W p l e (headSpec w_Parser_parse { frames := 14, cells := (kcc X P0), slots := (kss X P0), locals := 900 }).room s m args below meth c H locs (kcc X P0) (kss X P0) Q (F0 m 88 ls [.int (nI 1)])) :
    ∀ (k : Nat) (n : Nat) (P : PS) (L : List Nat) (G : PG) (H : Heap) (locs : List Loc) (ls : Array Slot), 8 < n + k → n ≤ P.1 15 → P0.1 12 ≤ P.1 12 → gL L G → PB0 ft tv nv T fk pp nn fh fl P → RE0 t0 qc qna qdf ft tv fh fl pp nn G P → X = tt_loop ft tv nv (1002 - n) P → va_P (dC, dI) cl ([(qp, .inr (3, [.ref qc, .ref qt, .ref qf, .int (nI (P.1 12))])), (qt, .inr (1, [w0, w1, .ref qk, .ref ql, .ref qn, .ref qh, .ref qe])), (qk, .inl (cI, 1001, .inl fk)), (ql, .inl (cI, 1001, .inl (nF pp))), (qn, .inl (cI, 1001, .inl (nF nn))), (qh, .inl (cL, 1001, .inr (.inl fh))), (qe, .inl (cL, 1001, .inr (.inl fl))), (qf, .inr (2, [v0, v1]))] ++ va_pl L (gE cO G)) H → va_D A ([(qp, .inr (3, [.ref qc, .ref qt, .ref qf, .int (nI (P.1 12))])), (qt, .inr (1, [w0, w1, .ref qk, .ref ql, .ref qn, .ref qh, .ref qe])), (qk, .inl (cI, 1001, .inl fk)), (ql, .inl (cI, 1001, .inl (nF pp))), (qn, .inl (cI, 1001, .inl (nF nn))), (qh, .inl (cL, 1001, .inr (.inl fh))), (qe, .inl (cL, 1001, .inr (.inl fl))), (qf, .inr (2, [v0, v1]))] ++ va_pl L (gE cO G)) → va_S A s.heap H locs → lv_has ls 3 [(0, .ref qp), (1, .int (nI n))] → W p l e (headSpec w_Parser_parse { frames := 14, cells := (kcc X P0), slots := (kss X P0), locals := 900 }).room s m args below meth c H locs (4 * (P.1 12 - P0.1 12)) (700 * (P.1 12 - P0.1 12)) Q (F0 m 14 ls []) := by
  intro k
  induction k with
  | zero =>
    intro n P L G H locs ls hk9 hn h0 hL B0 hR hX hP hD hS hl
    exfalso; have q9 := B0.2.2.2.1.1; omega
  | succ k ih =>
    intro n P L G H locs ls hk9 hn h0 hL B0 hR hX hP hD hS hl
    have hct := B0.2.2.2.1.1
    have hb3 := B0.l3
    refine lv_iload_n hx hb d_Parser_parse_14 rfl (lv_at hl 1 rfl) ?_
    refine lv_bipush (v := nI 8) hx hb d_Parser_parse_15 (by decide) ?_
    refine nv_icmp_gt (tgt := 95) hx hb (by omega) (by omega) d_Parser_parse_17 (by decide) (fun c_1 => ?_) (fun c_1 => ?_)
    · exfalso; omega
    · have hX := hX.trans (show tt_loop ft tv nv (1002 - n) P = tt_loop ft tv nv ((1001 - n) + 1) P by rw [show 1002 - n = (1001 - n) + 1 by omega])
      have hroom := st_room (f := 1001 - n) B0 h0
      rw [← hX] at hroom
      have hge := tt_ge (ft := ft) (tv := tv) (nv := nv) (f := 1001 - n) B0.1
      rw [← hX] at hge
      refine lv_aload_n hx hb d_Parser_parse_20 rfl (lv_at hl 0 rfl) ?_
      obtain ⟨ad, tg, hRX⟩ := id hR
      refine wd_q (cx := [(qp, .inr (3, [.ref qc, .ref qt, .ref qf, .int (nI (P.1 12))])), (qt, .inr (1, [w0, w1, .ref qk, .ref ql, .ref qn, .ref qh, .ref qe])), (qk, .inl (cI, 1001, .inl fk)), (ql, .inl (cI, 1001, .inl (nF pp))), (qn, .inl (cI, 1001, .inl (nF nn))), (qh, .inl (cL, 1001, .inr (.inl fh))), (qe, .inl (cL, 1001, .inr (.inl fl))), (qf, .inr (2, [v0, v1]))]) (wr := []) (pl := va_pl L (gE cO G)) (va_runV (As := []) (rest := []) ⟨hx, hb, hml, hown, hts⟩ (p_Parser_startChip l dC dI cB cI cL cZ cC cO qp qc qt qf qk ql qn qh qe fk pp nn fh fl (G := G) (P.1 12) (rga (ad 0) 0 (P.1 15)) v0 v1 t0 _ hL B0.l3 hk3 (by rw [← hRX.2.1.1]; exact hRX.2.2.2.1) (by rw [rga_len]; omega)) (cwV 0 hts (good_V k_525 k_527 s_Parser_startChip k_4 k_528) rfl rfl rfl (by decide +kernel) ⟨Nat.le_of_ble_eq_true rfl, Nat.le_of_ble_eq_true rfl⟩) (wd_preV (ci := 3) (r := (R_Parser, F_Parser, 4)) hK hP hD hS hA hF hE [0, 1, 2, 3, 4, 5, 6, 7] (by decide) rfl rfl ⟨0, rfl⟩) rfl rfl hl.1 rfl (lv_room (Nat.le_of_ble_eq_true rfl)) d_Parser_parse_21 ⟨hroom.1, hroom.2⟩) hP hD hS hA [0, 1, 2, 3, 4, 5, 6, 7] [] rfl rfl (by decide) (by decide) (fun r_3 u H locs w_2 hP hD hS => ?_)
      have hP : va_P (dC, dI) cl ([(qp, .inr (3, [.ref qc, .ref qt, .ref qf, .int (nI u.1.1)])), (qt, .inr (1, [w0, w1, .ref qk, .ref ql, .ref qn, .ref qh, .ref qe])), (qk, .inl (cI, 1001, .inl fk)), (ql, .inl (cI, 1001, .inl (nF pp))), (qn, .inl (cI, 1001, .inl (nF nn))), (qh, .inl (cL, 1001, .inr (.inl fh))), (qe, .inl (cL, 1001, .inr (.inl fl))), (qf, .inr (2, [u.1.2.1, u.1.2.2]))] ++ va_pl u.2.1 (gE cO u.2.2)) H := hP
      have hD : va_D A ([(qp, .inr (3, [.ref qc, .ref qt, .ref qf, .int (nI u.1.1)])), (qt, .inr (1, [w0, w1, .ref qk, .ref ql, .ref qn, .ref qh, .ref qe])), (qk, .inl (cI, 1001, .inl fk)), (ql, .inl (cI, 1001, .inl (nF pp))), (qn, .inl (cI, 1001, .inl (nF nn))), (qh, .inl (cL, 1001, .inr (.inl fh))), (qe, .inl (cL, 1001, .inr (.inl fl))), (qf, .inr (2, [u.1.2.1, u.1.2.2]))] ++ va_pl u.2.1 (gE cO u.2.2)) := hD
      obtain ⟨hu, hfr, hno, hp⟩ := w_2
      rcases chip_step B0 hRX hu hfr hno hp with ⟨cc, z, re, ue, gl, rep, BV, v12, v15, v24, v18, hsc⟩ | ⟨z, re, ue, gl, rb⟩
      · subst re
        rw [ue] at hP hD
        generalize hV : ch_s tv P = V at z ue rep BV v12 v15 v24 v18 hsc hP hD
        have h0V : P0.1 12 ≤ V.1 12 := by omega
        have hP : va_P (dC, dI) cl ([(qp, .inr (3, [.ref qc, .ref qt, .ref qf, .int (nI (V.1 12))])), (qt, .inr (1, [w0, w1, .ref qk, .ref ql, .ref qn, .ref qh, .ref qe])), (qk, .inl (cI, 1001, .inl fk)), (ql, .inl (cI, 1001, .inl (nF pp))), (qn, .inl (cI, 1001, .inl (nF nn))), (qh, .inl (cL, 1001, .inr (.inl fh))), (qe, .inl (cL, 1001, .inr (.inl fl))), (qf, .inr (2, [v0, v1]))] ++ va_pl u.2.1 (gE cO u.2.2)) H := hP
        have hD : va_D A ([(qp, .inr (3, [.ref qc, .ref qt, .ref qf, .int (nI (V.1 12))])), (qt, .inr (1, [w0, w1, .ref qk, .ref ql, .ref qn, .ref qh, .ref qe])), (qk, .inl (cI, 1001, .inl fk)), (ql, .inl (cI, 1001, .inl (nF pp))), (qn, .inl (cI, 1001, .inl (nF nn))), (qh, .inl (cL, 1001, .inr (.inl fh))), (qe, .inl (cL, 1001, .inr (.inl fl))), (qf, .inr (2, [v0, v1]))] ++ va_pl u.2.1 (gE cO u.2.2)) := hD
        refine W.widen (k := 4 * (V.1 12 - P0.1 12)) (n := 700 * (V.1 12 - P0.1 12)) (by omega) (by omega) ?_
        refine lv_astore_n (lv' := [(2, .ref cc), (0, .ref qp), (1, .int (nI n))]) hx hb d_Parser_parse_24 rfl hl (by decide) rfl (fun ls hl => ?_)
        refine lv_aload_n hx hb d_Parser_parse_25 rfl (lv_at hl 0 rfl) ?_
        refine lv_ifnull hx hb d_Parser_parse_26 ?_
        refine lv_aload_n hx hb d_Parser_parse_29 rfl (lv_at hl 1 rfl) ?_
        refine lv_aload_n hx hb d_Parser_parse_30 rfl (lv_at hl 0 rfl) ?_
        refine lv_bipush (v := nI 7) hx hb d_Parser_parse_31 (by decide) ?_
        refine lv_iconst (v := nI 0) hx hb d_Parser_parse_33 (by decide) ?_
        have hAz : V.1 12 ≤ (ch_pl tv nv false (sp_word tv (nI (0 + 1)) V)).1 12 := Nat.le_trans (z12_word _ _ _) z12_chpl
        have hsc : sp_chip ft tv nv P = cq1 ft tv nv (ch_pl tv nv false (sp_word tv (nI (0 + 1)) V)) := hsc
        have hB : (ch_pl tv nv false (sp_word tv (nI (0 + 1)) V)).1 12 ≤ X.1 12 := Nat.le_trans (by rw [hsc]; exact z12_c1) hge
        have hsk : ¬ (ch_pl tv nv false (sp_word tv (nI (0 + 1)) V)).1 13 = 0 → (sp_chip ft tv nv P).1 13 = (ch_pl tv nv false (sp_word tv (nI (0 + 1)) V)).1 13 ∧ (sp_chip ft tv nv P).1 14 = (ch_pl tv nv false (sp_word tv (nI (0 + 1)) V)).1 14 := fun q9 => by rw [hsc]; exact stk_c1 q9
        have hbd : ¬ (ch_pl tv nv false (sp_word tv (nI (0 + 1)) V)).1 13 = 0 → ¬ X.1 13 = 0 ∧ ftv X = ftv (ch_pl tv nv false (sp_word tv (nI (0 + 1)) V)) := fun q9 => by rw [hX]; exact tt_bad (f := 1001 - n) B0.1 (hsk q9) q9
        have hroom := rch (A := V) (B := (ch_pl tv nv false (sp_word tv (nI (0 + 1)) V))) (X := X) (P0 := P0) h0V hAz hB (fun q9 => (hbd q9).1)
        refine wd_i (cx := [(qp, .inr (3, [.ref qc, .ref qt, .ref qf, .int (nI (V.1 12))])), (qt, .inr (1, [w0, w1, .ref qk, .ref ql, .ref qn, .ref qh, .ref qe])), (qk, .inl (cI, 1001, .inl fk)), (ql, .inl (cI, 1001, .inl (nF pp))), (qn, .inl (cI, 1001, .inl (nF nn))), (qh, .inl (cL, 1001, .inr (.inl fh))), (qe, .inl (cL, 1001, .inr (.inl fl))), (qf, .inr (2, [v0, v1]))]) (wr := []) (pl := va_pl u.2.1 (gE cO u.2.2)) (va_runV (As := [.ref cc, .int (nI 7), .int (nI 0)]) (rest := []) ⟨hx, hb, hml, hown, hts⟩ (p_Parser_parsePins l dC dI cB cI cL cZ cC cO qp qc qt qf qk ql qn qh qe fk pp nn fh fl (G := u.2.2) qna qdf T ft tv nv (P.1 15) cc 0 false (ch_pl tv nv false (sp_word tv (nI (0 + 1)) V)) V v0 v1 t0 _ rfl (by decide) gl hk3 hnn BV rep (by omega) v24 (fun _ p q9 q8 => absurd q8 (by rw [v18]; omega))) (cwV 3 hts (good_V k_552 k_554 s_Parser_parsePins k_4 k_555) rfl rfl rfl (by decide +kernel) ⟨Nat.le_of_ble_eq_true rfl, Nat.le_of_ble_eq_true rfl⟩) (wd_preV (ci := 3) (r := (R_Parser, F_Parser, 4)) hK hP hD hS hA hF hE [0, 1, 2, 3, 4, 5, 6, 7] (by decide) rfl rfl ⟨0, rfl⟩) rfl rfl hl.1 rfl (lv_room (Nat.le_of_ble_eq_true rfl)) d_Parser_parse_34 ⟨hroom.1, hroom.2⟩) hP hD hS hA [0, 1, 2, 3, 4, 5, 6, 7] [] rfl rfl (by decide) (by decide) (fun r_5 u1 H locs w_4 hP hD hS => ?_)
        have hP : va_P (dC, dI) cl ([(qp, .inr (3, [.ref qc, .ref qt, .ref qf, .int (nI u1.1.1)])), (qt, .inr (1, [w0, w1, .ref qk, .ref ql, .ref qn, .ref qh, .ref qe])), (qk, .inl (cI, 1001, .inl fk)), (ql, .inl (cI, 1001, .inl (nF pp))), (qn, .inl (cI, 1001, .inl (nF nn))), (qh, .inl (cL, 1001, .inr (.inl fh))), (qe, .inl (cL, 1001, .inr (.inl fl))), (qf, .inr (2, [u1.1.2.1, u1.1.2.2]))] ++ va_pl u1.2.1 (gE cO u1.2.2)) H := hP
        have hD : va_D A ([(qp, .inr (3, [.ref qc, .ref qt, .ref qf, .int (nI u1.1.1)])), (qt, .inr (1, [w0, w1, .ref qk, .ref ql, .ref qn, .ref qh, .ref qe])), (qk, .inl (cI, 1001, .inl fk)), (ql, .inl (cI, 1001, .inl (nF pp))), (qn, .inl (cI, 1001, .inl (nF nn))), (qh, .inl (cL, 1001, .inr (.inl fh))), (qe, .inl (cL, 1001, .inr (.inl fl))), (qf, .inr (2, [u1.1.2.1, u1.1.2.2]))] ++ va_pl u1.2.1 (gE cO u1.2.2)) := hD
        obtain ⟨r_5e, gl, hcase⟩ := w_4
        subst r_5e
        rcases hcase with ⟨z, ue, rep, BA1, a24, aob, a151⟩ | ⟨z, ue, rb⟩
        · have zd : decide ((ch_pl tv nv false (sp_word tv (nI (0 + 1)) V)).1 13 = 0) = true := by simpa using z
          rw [ue] at hP hD
          obtain ⟨kt1, kt2⟩ := kcc_t (P := V) z
          have hP : va_P (dC, dI) cl ([(qp, .inr (3, [.ref qc, .ref qt, .ref qf, .int (nI ((ch_pl tv nv false (sp_word tv (nI (0 + 1)) V)).1 12))])), (qt, .inr (1, [w0, w1, .ref qk, .ref ql, .ref qn, .ref qh, .ref qe])), (qk, .inl (cI, 1001, .inl fk)), (ql, .inl (cI, 1001, .inl (nF pp))), (qn, .inl (cI, 1001, .inl (nF nn))), (qh, .inl (cL, 1001, .inr (.inl fh))), (qe, .inl (cL, 1001, .inr (.inl fl))), (qf, .inr (2, [v0, v1]))] ++ va_pl u1.2.1 (gE cO u1.2.2)) H := hP
          have hD : va_D A ([(qp, .inr (3, [.ref qc, .ref qt, .ref qf, .int (nI ((ch_pl tv nv false (sp_word tv (nI (0 + 1)) V)).1 12))])), (qt, .inr (1, [w0, w1, .ref qk, .ref ql, .ref qn, .ref qh, .ref qe])), (qk, .inl (cI, 1001, .inl fk)), (ql, .inl (cI, 1001, .inl (nF pp))), (qn, .inl (cI, 1001, .inl (nF nn))), (qh, .inl (cL, 1001, .inr (.inl fh))), (qe, .inl (cL, 1001, .inr (.inl fl))), (qf, .inr (2, [v0, v1]))] ++ va_pl u1.2.1 (gE cO u1.2.2)) := hD
          refine W.widen (k := 4 * ((ch_pl tv nv false (sp_word tv (nI (0 + 1)) V)).1 12 - P0.1 12)) (n := 700 * ((ch_pl tv nv false (sp_word tv (nI (0 + 1)) V)).1 12 - P0.1 12)) (by omega) (by omega) ?_
          clear hbd hsk kt1 kt2 hroom
          generalize hA1 : (ch_pl tv nv false (sp_word tv (nI (0 + 1)) V)) = A1 at zd z ue rep BA1 a24 aob a151 hsc hP hD hAz hB ⊢
          have h0A1 : P0.1 12 ≤ A1.1 12 := by omega
          have hP : va_P (dC, dI) cl ([(qp, .inr (3, [.ref qc, .ref qt, .ref qf, .int (nI (A1.1 12))])), (qt, .inr (1, [w0, w1, .ref qk, .ref ql, .ref qn, .ref qh, .ref qe])), (qk, .inl (cI, 1001, .inl fk)), (ql, .inl (cI, 1001, .inl (nF pp))), (qn, .inl (cI, 1001, .inl (nF nn))), (qh, .inl (cL, 1001, .inr (.inl fh))), (qe, .inl (cL, 1001, .inr (.inl fl))), (qf, .inr (2, [v0, v1]))] ++ va_pl u1.2.1 (gE cO u1.2.2)) H := hP
          have hD : va_D A ([(qp, .inr (3, [.ref qc, .ref qt, .ref qf, .int (nI (A1.1 12))])), (qt, .inr (1, [w0, w1, .ref qk, .ref ql, .ref qn, .ref qh, .ref qe])), (qk, .inl (cI, 1001, .inl fk)), (ql, .inl (cI, 1001, .inl (nF pp))), (qn, .inl (cI, 1001, .inl (nF nn))), (qh, .inl (cL, 1001, .inr (.inl fh))), (qe, .inl (cL, 1001, .inr (.inl fl))), (qf, .inr (2, [v0, v1]))] ++ va_pl u1.2.1 (gE cO u1.2.2)) := hD
          refine nv_bif_eq (tgt := 77) hx hb d_Parser_parse_37 (by decide) (fun c_6 => ?_) (fun c_6 => ?_)
          · exact absurd (zd.symm.trans c_6) (by decide)
          · refine lv_aload_n hx hb d_Parser_parse_40 rfl (lv_at hl 1 rfl) ?_
            refine lv_aload_n hx hb d_Parser_parse_41 rfl (lv_at hl 0 rfl) ?_
            refine lv_bipush (v := nI 8) hx hb d_Parser_parse_42 (by decide) ?_
            refine lv_iconst (v := nI 1) hx hb d_Parser_parse_44 (by decide) ?_
            have hAz : A1.1 12 ≤ (ch_pl tv nv true (sp_word tv (nI (1 + 1)) A1)).1 12 := Nat.le_trans (z12_word _ _ _) z12_chpl
            have hsc : sp_chip ft tv nv P = cq2 ft tv nv (ch_pl tv nv true (sp_word tv (nI (1 + 1)) A1)) := hsc
            have hB : (ch_pl tv nv true (sp_word tv (nI (1 + 1)) A1)).1 12 ≤ X.1 12 := Nat.le_trans (by rw [hsc]; exact z12_c2) hge
            have hsk : ¬ (ch_pl tv nv true (sp_word tv (nI (1 + 1)) A1)).1 13 = 0 → (sp_chip ft tv nv P).1 13 = (ch_pl tv nv true (sp_word tv (nI (1 + 1)) A1)).1 13 ∧ (sp_chip ft tv nv P).1 14 = (ch_pl tv nv true (sp_word tv (nI (1 + 1)) A1)).1 14 := fun q9 => by rw [hsc]; exact stk_c2 q9
            have hbd : ¬ (ch_pl tv nv true (sp_word tv (nI (1 + 1)) A1)).1 13 = 0 → ¬ X.1 13 = 0 ∧ ftv X = ftv (ch_pl tv nv true (sp_word tv (nI (1 + 1)) A1)) := fun q9 => by rw [hX]; exact tt_bad (f := 1001 - n) B0.1 (hsk q9) q9
            have hroom := rch (A := A1) (B := (ch_pl tv nv true (sp_word tv (nI (1 + 1)) A1))) (X := X) (P0 := P0) h0A1 hAz hB (fun q9 => (hbd q9).1)
            refine wd_i (cx := [(qp, .inr (3, [.ref qc, .ref qt, .ref qf, .int (nI (A1.1 12))])), (qt, .inr (1, [w0, w1, .ref qk, .ref ql, .ref qn, .ref qh, .ref qe])), (qk, .inl (cI, 1001, .inl fk)), (ql, .inl (cI, 1001, .inl (nF pp))), (qn, .inl (cI, 1001, .inl (nF nn))), (qh, .inl (cL, 1001, .inr (.inl fh))), (qe, .inl (cL, 1001, .inr (.inl fl))), (qf, .inr (2, [v0, v1]))]) (wr := []) (pl := va_pl u1.2.1 (gE cO u1.2.2)) (va_runV (As := [.ref cc, .int (nI 8), .int (nI 1)]) (rest := []) ⟨hx, hb, hml, hown, hts⟩ (p_Parser_parsePins l dC dI cB cI cL cZ cC cO qp qc qt qf qk ql qn qh qe fk pp nn fh fl (G := u1.2.2) qna qdf T ft tv nv (P.1 15) cc 1 true (ch_pl tv nv true (sp_word tv (nI (1 + 1)) A1)) A1 v0 v1 t0 _ rfl (by decide) gl hk3 hnn BA1 rep (by omega) a24 (fun q9 => by cases q9)) (cwV 3 hts (good_V k_552 k_554 s_Parser_parsePins k_4 k_555) rfl rfl rfl (by decide +kernel) ⟨Nat.le_of_ble_eq_true rfl, Nat.le_of_ble_eq_true rfl⟩) (wd_preV (ci := 3) (r := (R_Parser, F_Parser, 4)) hK hP hD hS hA hF hE [0, 1, 2, 3, 4, 5, 6, 7] (by decide) rfl rfl ⟨0, rfl⟩) rfl rfl hl.1 rfl (lv_room (Nat.le_of_ble_eq_true rfl)) d_Parser_parse_45 ⟨hroom.1, hroom.2⟩) hP hD hS hA [0, 1, 2, 3, 4, 5, 6, 7] [] rfl rfl (by decide) (by decide) (fun r_8 u2 H locs w_7 hP hD hS => ?_)
            have hP : va_P (dC, dI) cl ([(qp, .inr (3, [.ref qc, .ref qt, .ref qf, .int (nI u2.1.1)])), (qt, .inr (1, [w0, w1, .ref qk, .ref ql, .ref qn, .ref qh, .ref qe])), (qk, .inl (cI, 1001, .inl fk)), (ql, .inl (cI, 1001, .inl (nF pp))), (qn, .inl (cI, 1001, .inl (nF nn))), (qh, .inl (cL, 1001, .inr (.inl fh))), (qe, .inl (cL, 1001, .inr (.inl fl))), (qf, .inr (2, [u2.1.2.1, u2.1.2.2]))] ++ va_pl u2.2.1 (gE cO u2.2.2)) H := hP
            have hD : va_D A ([(qp, .inr (3, [.ref qc, .ref qt, .ref qf, .int (nI u2.1.1)])), (qt, .inr (1, [w0, w1, .ref qk, .ref ql, .ref qn, .ref qh, .ref qe])), (qk, .inl (cI, 1001, .inl fk)), (ql, .inl (cI, 1001, .inl (nF pp))), (qn, .inl (cI, 1001, .inl (nF nn))), (qh, .inl (cL, 1001, .inr (.inl fh))), (qe, .inl (cL, 1001, .inr (.inl fl))), (qf, .inr (2, [u2.1.2.1, u2.1.2.2]))] ++ va_pl u2.2.1 (gE cO u2.2.2)) := hD
            obtain ⟨r_8e, gl, hcase⟩ := w_7
            subst r_8e
            rcases hcase with ⟨z, ue, rep, BA2, a24, aob, a152⟩ | ⟨z, ue, rb⟩
            · have zd : decide ((ch_pl tv nv true (sp_word tv (nI (1 + 1)) A1)).1 13 = 0) = true := by simpa using z
              rw [ue] at hP hD
              obtain ⟨kt1, kt2⟩ := kcc_t (P := A1) z
              have hP : va_P (dC, dI) cl ([(qp, .inr (3, [.ref qc, .ref qt, .ref qf, .int (nI ((ch_pl tv nv true (sp_word tv (nI (1 + 1)) A1)).1 12))])), (qt, .inr (1, [w0, w1, .ref qk, .ref ql, .ref qn, .ref qh, .ref qe])), (qk, .inl (cI, 1001, .inl fk)), (ql, .inl (cI, 1001, .inl (nF pp))), (qn, .inl (cI, 1001, .inl (nF nn))), (qh, .inl (cL, 1001, .inr (.inl fh))), (qe, .inl (cL, 1001, .inr (.inl fl))), (qf, .inr (2, [v0, v1]))] ++ va_pl u2.2.1 (gE cO u2.2.2)) H := hP
              have hD : va_D A ([(qp, .inr (3, [.ref qc, .ref qt, .ref qf, .int (nI ((ch_pl tv nv true (sp_word tv (nI (1 + 1)) A1)).1 12))])), (qt, .inr (1, [w0, w1, .ref qk, .ref ql, .ref qn, .ref qh, .ref qe])), (qk, .inl (cI, 1001, .inl fk)), (ql, .inl (cI, 1001, .inl (nF pp))), (qn, .inl (cI, 1001, .inl (nF nn))), (qh, .inl (cL, 1001, .inr (.inl fh))), (qe, .inl (cL, 1001, .inr (.inl fl))), (qf, .inr (2, [v0, v1]))] ++ va_pl u2.2.1 (gE cO u2.2.2)) := hD
              refine W.widen (k := 4 * ((ch_pl tv nv true (sp_word tv (nI (1 + 1)) A1)).1 12 - P0.1 12)) (n := 700 * ((ch_pl tv nv true (sp_word tv (nI (1 + 1)) A1)).1 12 - P0.1 12)) (by omega) (by omega) ?_
              clear hbd hsk kt1 kt2 hroom
              generalize hA2 : (ch_pl tv nv true (sp_word tv (nI (1 + 1)) A1)) = A2 at zd z ue rep BA2 a24 aob a152 hsc hP hD hAz hB ⊢
              have h0A2 : P0.1 12 ≤ A2.1 12 := by omega
              have hP : va_P (dC, dI) cl ([(qp, .inr (3, [.ref qc, .ref qt, .ref qf, .int (nI (A2.1 12))])), (qt, .inr (1, [w0, w1, .ref qk, .ref ql, .ref qn, .ref qh, .ref qe])), (qk, .inl (cI, 1001, .inl fk)), (ql, .inl (cI, 1001, .inl (nF pp))), (qn, .inl (cI, 1001, .inl (nF nn))), (qh, .inl (cL, 1001, .inr (.inl fh))), (qe, .inl (cL, 1001, .inr (.inl fl))), (qf, .inr (2, [v0, v1]))] ++ va_pl u2.2.1 (gE cO u2.2.2)) H := hP
              have hD : va_D A ([(qp, .inr (3, [.ref qc, .ref qt, .ref qf, .int (nI (A2.1 12))])), (qt, .inr (1, [w0, w1, .ref qk, .ref ql, .ref qn, .ref qh, .ref qe])), (qk, .inl (cI, 1001, .inl fk)), (ql, .inl (cI, 1001, .inl (nF pp))), (qn, .inl (cI, 1001, .inl (nF nn))), (qh, .inl (cL, 1001, .inr (.inl fh))), (qe, .inl (cL, 1001, .inr (.inl fl))), (qf, .inr (2, [v0, v1]))] ++ va_pl u2.2.1 (gE cO u2.2.2)) := hD
              refine nv_bif_eq (tgt := 77) hx hb d_Parser_parse_48 (by decide) (fun c_9 => ?_) (fun c_9 => ?_)
              · exact absurd (zd.symm.trans c_9) (by decide)
              · have al3 := BA2.l3
                have hroom : 4 * (A2.1 12 - P0.1 12) ≤ kcc X P0 ∧ 700 * (A2.1 12 - P0.1 12) ≤ kss X P0 := by have g9 := kcc_g X P0; omega
                obtain ⟨f1, f2⟩ := fz_word (v0 := v0) (v1 := v1) BA2.2.1 BA2.1 BA2.le (n := 3) (by decide)
                refine lv_aload_n hx hb d_Parser_parse_51 rfl (lv_at hl 1 rfl) ?_
                refine lv_bipush (v := nI 9) hx hb d_Parser_parse_52 (by decide) ?_
                refine we_i (cx := [(qp, .inr (3, [.ref qc, .ref qt, .ref qf, .int (nI (A2.1 12))])), (qt, .inr (1, [w0, w1, .ref qk, .ref ql, .ref qn, .ref qh, .ref qe])), (qk, .inl (cI, 1001, .inl fk)), (ql, .inl (cI, 1001, .inl (nF pp))), (qf, .inr (2, [v0, v1]))]) (wr := [(qn, .inl (cI, 1001, .inl (nF nn))), (qh, .inl (cL, 1001, .inr (.inl fh))), (qe, .inl (cL, 1001, .inr (.inl fl)))]) (pl := va_pl u2.2.1 (gE cO u2.2.2)) (va_runV (As := [.int (nI 9)]) (rest := []) ⟨hx, hb, hml, hown, hts⟩ (c_Parser_want l dC dI cB cI cL cZ cC cO qp qc qt qf qk ql v0 v1 fk (nF pp) (A2.1 12) (nI 9) _ (by omega)) (cwV 1 hts (good_V k_529 k_531 s_Parser_want k_4 k_532) rfl rfl rfl (by decide +kernel) ⟨Nat.le_of_ble_eq_true rfl, Nat.le_of_ble_eq_true rfl⟩) (wc_preV (k0 := 0) (ci := 3) (r := (R_Parser, F_Parser, 4)) hK hP hD hS hA hF [0, 1, 2, 3, 7] (by decide) rfl rfl rfl) rfl rfl hl.1 rfl (lv_room (Nat.le_of_ble_eq_true rfl)) d_Parser_parse_54 ⟨Nat.le_trans (by omega) hroom.1, Nat.le_trans (by omega) hroom.2⟩) hP hD hS hA [0, 1, 2, 3, 7] [4, 5, 6] rfl rfl (by decide) (by decide) (fun r_13 u_11 H locs w_12 hP hD hS => ?_)
                have hP : va_P (dC, dI) cl ([(qn, .inl (cI, 1001, .inl (nF nn))), (qh, .inl (cL, 1001, .inr (.inl fh))), (qe, .inl (cL, 1001, .inr (.inl fl))), (qp, .inr (3, [.ref qc, .ref qt, .ref qf, .int (nI u_11.1)])), (qt, .inr (1, [w0, w1, .ref qk, .ref ql, .ref qn, .ref qh, .ref qe])), (qk, .inl (cI, 1001, .inl fk)), (ql, .inl (cI, 1001, .inl (nF pp))), (qf, .inr (2, [u_11.2.1, u_11.2.2]))] ++ va_pl u2.2.1 (gE cO u2.2.2)) H := hP
                have hD : va_D A ([(qn, .inl (cI, 1001, .inl (nF nn))), (qh, .inl (cL, 1001, .inr (.inl fh))), (qe, .inl (cL, 1001, .inr (.inl fl))), (qp, .inr (3, [.ref qc, .ref qt, .ref qf, .int (nI u_11.1)])), (qt, .inr (1, [w0, w1, .ref qk, .ref ql, .ref qn, .ref qh, .ref qe])), (qk, .inl (cI, 1001, .inl fk)), (ql, .inl (cI, 1001, .inl (nF pp))), (qf, .inr (2, [u_11.2.1, u_11.2.2]))] ++ va_pl u2.2.1 (gE cO u2.2.2)) := hD
                obtain ⟨r_13e, u_11e⟩ := w_12
                subst r_13e
                by_cases tk_10 : wt_ok fk (A2.1 12) (nI 9) = true
                · rw [wt_T tk_10] at u_11e
                  subst u_11e
                  have hb_tk_10 : (A2.1 12) < 1000 := wt_lt tk_10
                  have hP : va_P (dC, dI) cl ([(qn, .inl (cI, 1001, .inl (nF nn))), (qh, .inl (cL, 1001, .inr (.inl fh))), (qe, .inl (cL, 1001, .inr (.inl fl))), (qp, .inr (3, [.ref qc, .ref qt, .ref qf, .int (nI ((A2.1 12) + 1))])), (qt, .inr (1, [w0, w1, .ref qk, .ref ql, .ref qn, .ref qh, .ref qe])), (qk, .inl (cI, 1001, .inl fk)), (ql, .inl (cI, 1001, .inl (nF pp))), (qf, .inr (2, [v0, v1]))] ++ va_pl u2.2.1 (gE cO u2.2.2)) H := hP
                  have hD : va_D A ([(qn, .inl (cI, 1001, .inl (nF nn))), (qh, .inl (cL, 1001, .inr (.inl fh))), (qe, .inl (cL, 1001, .inr (.inl fl))), (qp, .inr (3, [.ref qc, .ref qt, .ref qf, .int (nI ((A2.1 12) + 1))])), (qt, .inr (1, [w0, w1, .ref qk, .ref ql, .ref qn, .ref qh, .ref qe])), (qk, .inl (cI, 1001, .inl fk)), (ql, .inl (cI, 1001, .inl (nF pp))), (qf, .inr (2, [v0, v1]))] ++ va_pl u2.2.1 (gE cO u2.2.2)) := hD
                  refine nv_bif_eq (tgt := 77) hx hb d_Parser_parse_57 (by decide) (fun c_14 => ?_) (fun c_14 => ?_)
                  · exact absurd (tk_10.symm.trans c_14) (by decide)
                  · have z3 : (sp_word tv (nI 3) A2).1 13 = 0 := of_decide_eq_true (f1.r.symm.trans tk_10)
                    have e3 : (sp_word tv (nI 3) A2).1 12 = A2.1 12 + 1 := by rw [(f2 z3).2.1]; exact go12 BA2.1
                    rw [← e3] at hP hD
                    have B3 := BA2.wrd z3
                    have rep := rep.wrd (c := nI 3)
                    have a15_3 : (sp_word tv (nI 3) A2).1 15 = A2.1 15 := zk_word (by decide) (by decide) (by decide)
                    have hsc : sp_chip ft tv nv P = cq3 ft tv nv (sp_word tv (nI 3) A2) := hsc
                    generalize sp_word tv (nI 3) A2 = A3 at z3 e3 B3 rep a15_3 hsc hP hD
                    have al3' := B3.l3
                    have hP : va_P (dC, dI) cl ([(qn, .inl (cI, 1001, .inl (nF nn))), (qh, .inl (cL, 1001, .inr (.inl fh))), (qe, .inl (cL, 1001, .inr (.inl fl))), (qp, .inr (3, [.ref qc, .ref qt, .ref qf, .int (nI (A3.1 12))])), (qt, .inr (1, [w0, w1, .ref qk, .ref ql, .ref qn, .ref qh, .ref qe])), (qk, .inl (cI, 1001, .inl fk)), (ql, .inl (cI, 1001, .inl (nF pp))), (qf, .inr (2, [v0, v1]))] ++ va_pl u2.2.1 (gE cO u2.2.2)) H := hP
                    have hD : va_D A ([(qn, .inl (cI, 1001, .inl (nF nn))), (qh, .inl (cL, 1001, .inr (.inl fh))), (qe, .inl (cL, 1001, .inr (.inl fl))), (qp, .inr (3, [.ref qc, .ref qt, .ref qf, .int (nI (A3.1 12))])), (qt, .inr (1, [w0, w1, .ref qk, .ref ql, .ref qn, .ref qh, .ref qe])), (qk, .inl (cI, 1001, .inl fk)), (ql, .inl (cI, 1001, .inl (nF pp))), (qf, .inr (2, [v0, v1]))] ++ va_pl u2.2.1 (gE cO u2.2.2)) := hD
                    have hB : A3.1 12 ≤ X.1 12 := Nat.le_trans (by rw [hsc]; exact z12_c3) hge
                    obtain ⟨f1, f2⟩ := fz_sign (v0 := v0) (v1 := v1) B3.2.1 B3.1 B3.le (n := 58) (by decide) (by decide)
                    refine lv_aload_n hx hb d_Parser_parse_60 rfl (lv_at hl 1 rfl) ?_
                    refine lv_bipush (v := nI 58) hx hb d_Parser_parse_61 (by decide) ?_
                    refine we_i (cx := [(qp, .inr (3, [.ref qc, .ref qt, .ref qf, .int (nI (A3.1 12))])), (qt, .inr (1, [w0, w1, .ref qk, .ref ql, .ref qn, .ref qh, .ref qe])), (qk, .inl (cI, 1001, .inl fk)), (ql, .inl (cI, 1001, .inl (nF pp))), (qf, .inr (2, [v0, v1]))]) (wr := [(qn, .inl (cI, 1001, .inl (nF nn))), (qh, .inl (cL, 1001, .inr (.inl fh))), (qe, .inl (cL, 1001, .inr (.inl fl)))]) (pl := va_pl u2.2.1 (gE cO u2.2.2)) (va_runV (As := [.int (nI 58)]) (rest := []) ⟨hx, hb, hml, hown, hts⟩ (c_Parser_want l dC dI cB cI cL cZ cC cO qp qc qt qf qk ql v0 v1 fk (nF pp) (A3.1 12) (nI 58) _ (by omega)) (cwV 1 hts (good_V k_529 k_531 s_Parser_want k_4 k_532) rfl rfl rfl (by decide +kernel) ⟨Nat.le_of_ble_eq_true rfl, Nat.le_of_ble_eq_true rfl⟩) (wc_preV (k0 := 3) (ci := 3) (r := (R_Parser, F_Parser, 4)) hK hP hD hS hA hF [3, 4, 5, 6, 7] (by decide) rfl rfl rfl) rfl rfl hl.1 rfl (lv_room (Nat.le_of_ble_eq_true rfl)) d_Parser_parse_63 ⟨Nat.le_trans (by omega) hroom.1, Nat.le_trans (by omega) hroom.2⟩) hP hD hS hA [3, 4, 5, 6, 7] [0, 1, 2] rfl rfl (by decide) (by decide) (fun r_18 u_16 H locs w_17 hP hD hS => ?_)
                    have hP : va_P (dC, dI) cl ([(qn, .inl (cI, 1001, .inl (nF nn))), (qh, .inl (cL, 1001, .inr (.inl fh))), (qe, .inl (cL, 1001, .inr (.inl fl))), (qp, .inr (3, [.ref qc, .ref qt, .ref qf, .int (nI u_16.1)])), (qt, .inr (1, [w0, w1, .ref qk, .ref ql, .ref qn, .ref qh, .ref qe])), (qk, .inl (cI, 1001, .inl fk)), (ql, .inl (cI, 1001, .inl (nF pp))), (qf, .inr (2, [u_16.2.1, u_16.2.2]))] ++ va_pl u2.2.1 (gE cO u2.2.2)) H := hP
                    have hD : va_D A ([(qn, .inl (cI, 1001, .inl (nF nn))), (qh, .inl (cL, 1001, .inr (.inl fh))), (qe, .inl (cL, 1001, .inr (.inl fl))), (qp, .inr (3, [.ref qc, .ref qt, .ref qf, .int (nI u_16.1)])), (qt, .inr (1, [w0, w1, .ref qk, .ref ql, .ref qn, .ref qh, .ref qe])), (qk, .inl (cI, 1001, .inl fk)), (ql, .inl (cI, 1001, .inl (nF pp))), (qf, .inr (2, [u_16.2.1, u_16.2.2]))] ++ va_pl u2.2.1 (gE cO u2.2.2)) := hD
                    obtain ⟨r_18e, u_16e⟩ := w_17
                    subst r_18e
                    by_cases tk_15 : wt_ok fk (A3.1 12) (nI 58) = true
                    · rw [wt_T tk_15] at u_16e
                      subst u_16e
                      have hb_tk_15 : (A3.1 12) < 1000 := wt_lt tk_15
                      have hP : va_P (dC, dI) cl ([(qn, .inl (cI, 1001, .inl (nF nn))), (qh, .inl (cL, 1001, .inr (.inl fh))), (qe, .inl (cL, 1001, .inr (.inl fl))), (qp, .inr (3, [.ref qc, .ref qt, .ref qf, .int (nI ((A3.1 12) + 1))])), (qt, .inr (1, [w0, w1, .ref qk, .ref ql, .ref qn, .ref qh, .ref qe])), (qk, .inl (cI, 1001, .inl fk)), (ql, .inl (cI, 1001, .inl (nF pp))), (qf, .inr (2, [v0, v1]))] ++ va_pl u2.2.1 (gE cO u2.2.2)) H := hP
                      have hD : va_D A ([(qn, .inl (cI, 1001, .inl (nF nn))), (qh, .inl (cL, 1001, .inr (.inl fh))), (qe, .inl (cL, 1001, .inr (.inl fl))), (qp, .inr (3, [.ref qc, .ref qt, .ref qf, .int (nI ((A3.1 12) + 1))])), (qt, .inr (1, [w0, w1, .ref qk, .ref ql, .ref qn, .ref qh, .ref qe])), (qk, .inl (cI, 1001, .inl fk)), (ql, .inl (cI, 1001, .inl (nF pp))), (qf, .inr (2, [v0, v1]))] ++ va_pl u2.2.1 (gE cO u2.2.2)) := hD
                      refine nv_bif_eq (tgt := 77) hx hb d_Parser_parse_66 (by decide) (fun c_19 => ?_) (fun c_19 => ?_)
                      · exact absurd (tk_15.symm.trans c_19) (by decide)
                      · have z4 : (sp_sign tv (nI 58) A3).1 13 = 0 := of_decide_eq_true (f1.r.symm.trans tk_15)
                        have e4 : (sp_sign tv (nI 58) A3).1 12 = A3.1 12 + 1 := by rw [(f2 z4).2.1]; exact go12 B3.1
                        rw [← e4] at hP hD
                        have B4 := B3.sgn z4
                        have rep := rep.sgn (c := nI 58)
                        have a15_4 : (sp_sign tv (nI 58) A3).1 15 = A3.1 15 := zk_sign (by decide) (by decide) (by decide)
                        have hsc : sp_chip ft tv nv P = cq4 ft tv nv (sp_sign tv (nI 58) A3) := hsc
                        generalize sp_sign tv (nI 58) A3 = A4 at z4 e4 B4 rep a15_4 hsc hP hD
                        have hP : va_P (dC, dI) cl ([(qn, .inl (cI, 1001, .inl (nF nn))), (qh, .inl (cL, 1001, .inr (.inl fh))), (qe, .inl (cL, 1001, .inr (.inl fl))), (qp, .inr (3, [.ref qc, .ref qt, .ref qf, .int (nI (A4.1 12))])), (qt, .inr (1, [w0, w1, .ref qk, .ref ql, .ref qn, .ref qh, .ref qe])), (qk, .inl (cI, 1001, .inl fk)), (ql, .inl (cI, 1001, .inl (nF pp))), (qf, .inr (2, [v0, v1]))] ++ va_pl u2.2.1 (gE cO u2.2.2)) H := hP
                        have hD : va_D A ([(qn, .inl (cI, 1001, .inl (nF nn))), (qh, .inl (cL, 1001, .inr (.inl fh))), (qe, .inl (cL, 1001, .inr (.inl fl))), (qp, .inr (3, [.ref qc, .ref qt, .ref qf, .int (nI (A4.1 12))])), (qt, .inr (1, [w0, w1, .ref qk, .ref ql, .ref qn, .ref qh, .ref qe])), (qk, .inl (cI, 1001, .inl fk)), (ql, .inl (cI, 1001, .inl (nF pp))), (qf, .inr (2, [v0, v1]))] ++ va_pl u2.2.1 (gE cO u2.2.2)) := hD
                        have h0A4 : P0.1 12 ≤ A4.1 12 := by omega
                        refine W.widen (k := 4 * (A4.1 12 - P0.1 12)) (n := 700 * (A4.1 12 - P0.1 12)) (by omega) (by omega) ?_
                        refine lv_aload_n hx hb d_Parser_parse_69 rfl (lv_at hl 1 rfl) ?_
                        refine lv_aload_n hx hb d_Parser_parse_70 rfl (lv_at hl 0 rfl) ?_
                        have hAz : A4.1 12 ≤ (sp_sign tv (nI 125) (ch_loop ft tv nv 1002 A4)).1 12 := z12_c4
                        have hsc : sp_chip ft tv nv P = (sp_sign tv (nI 125) (ch_loop ft tv nv 1002 A4)) := hsc
                        have hB : (sp_sign tv (nI 125) (ch_loop ft tv nv 1002 A4)).1 12 ≤ X.1 12 := by rw [← hsc]; exact hge
                        have hbd : ¬ (sp_sign tv (nI 125) (ch_loop ft tv nv 1002 A4)).1 13 = 0 → ¬ X.1 13 = 0 ∧ ftv X = ftv (sp_sign tv (nI 125) (ch_loop ft tv nv 1002 A4)) := fun q9 => by rw [hX]; exact tt_bad (f := 1001 - n) B0.1 (by rw [hsc]; exact ⟨rfl, rfl⟩) q9
                        have hroom := rch (A := A4) (B := (sp_sign tv (nI 125) (ch_loop ft tv nv 1002 A4))) (X := X) (P0 := P0) h0A4 hAz hB (fun q9 => (hbd q9).1)
                        have a4e : A4.1 15 = P.1 15 + 1 := by omega
                        refine wd_i (cx := [(qp, .inr (3, [.ref qc, .ref qt, .ref qf, .int (nI (A4.1 12))])), (qt, .inr (1, [w0, w1, .ref qk, .ref ql, .ref qn, .ref qh, .ref qe])), (qk, .inl (cI, 1001, .inl fk)), (ql, .inl (cI, 1001, .inl (nF pp))), (qn, .inl (cI, 1001, .inl (nF nn))), (qh, .inl (cL, 1001, .inr (.inl fh))), (qe, .inl (cL, 1001, .inr (.inl fl))), (qf, .inr (2, [v0, v1]))]) (wr := []) (pl := va_pl u2.2.1 (gE cO u2.2.2)) (va_runV (As := [.ref cc]) (rest := []) ⟨hx, hb, hml, hown, hts⟩ (p_Parser_parseParts l dC dI cB cI cL cZ cC cO qp qc qt qf qk ql qn qh qe fk pp nn fh fl (G := u2.2.2) qna qdf T ft tv nv (A4.1 15) cc (sp_sign tv (nI 125) (ch_loop ft tv nv 1002 A4)) A4 v0 v1 t0 _ rfl gl hk3 hnn hk10 B4 (rep.mono (by omega)) rfl) (cwV 1 hts (good_V k_571 k_573 s_Parser_parseParts k_4 k_574) rfl rfl rfl (by decide +kernel) ⟨Nat.le_of_ble_eq_true rfl, Nat.le_of_ble_eq_true rfl⟩) (wd_preV (ci := 3) (r := (R_Parser, F_Parser, 4)) hK hP hD hS hA hF hE [3, 4, 5, 6, 0, 1, 2, 7] (by decide) rfl rfl ⟨3, rfl⟩) rfl rfl hl.1 rfl (lv_room (Nat.le_of_ble_eq_true rfl)) d_Parser_parse_71 ⟨hroom.1, hroom.2⟩) hP hD hS hA [3, 4, 5, 6, 0, 1, 2, 7] [] rfl rfl (by decide) (by decide) (fun r_21 u3 H locs w_20 hP hD hS => ?_)
                        have hP : va_P (dC, dI) cl ([(qp, .inr (3, [.ref qc, .ref qt, .ref qf, .int (nI u3.1.1)])), (qt, .inr (1, [w0, w1, .ref qk, .ref ql, .ref qn, .ref qh, .ref qe])), (qk, .inl (cI, 1001, .inl fk)), (ql, .inl (cI, 1001, .inl (nF pp))), (qn, .inl (cI, 1001, .inl (nF nn))), (qh, .inl (cL, 1001, .inr (.inl fh))), (qe, .inl (cL, 1001, .inr (.inl fl))), (qf, .inr (2, [u3.1.2.1, u3.1.2.2]))] ++ va_pl u3.2.1 (gE cO u3.2.2)) H := hP
                        have hD : va_D A ([(qp, .inr (3, [.ref qc, .ref qt, .ref qf, .int (nI u3.1.1)])), (qt, .inr (1, [w0, w1, .ref qk, .ref ql, .ref qn, .ref qh, .ref qe])), (qk, .inl (cI, 1001, .inl fk)), (ql, .inl (cI, 1001, .inl (nF pp))), (qn, .inl (cI, 1001, .inl (nF nn))), (qh, .inl (cL, 1001, .inr (.inl fh))), (qe, .inl (cL, 1001, .inr (.inl fl))), (qf, .inr (2, [u3.1.2.1, u3.1.2.2]))] ++ va_pl u3.2.1 (gE cO u3.2.2)) := hD
                        obtain ⟨r_21e, gl, hcase⟩ := w_20
                        subst r_21e
                        rcases hcase with ⟨z, ue, rep, B5, a15_5⟩ | ⟨z, ue, rb⟩
                        · have zd : decide ((sp_sign tv (nI 125) (ch_loop ft tv nv 1002 A4)).1 13 = 0) = true := by simpa using z
                          rw [ue] at hP hD
                          obtain ⟨kt1, kt2⟩ := kcc_t (P := A4) z
                          have hP : va_P (dC, dI) cl ([(qp, .inr (3, [.ref qc, .ref qt, .ref qf, .int (nI ((sp_sign tv (nI 125) (ch_loop ft tv nv 1002 A4)).1 12))])), (qt, .inr (1, [w0, w1, .ref qk, .ref ql, .ref qn, .ref qh, .ref qe])), (qk, .inl (cI, 1001, .inl fk)), (ql, .inl (cI, 1001, .inl (nF pp))), (qn, .inl (cI, 1001, .inl (nF nn))), (qh, .inl (cL, 1001, .inr (.inl fh))), (qe, .inl (cL, 1001, .inr (.inl fl))), (qf, .inr (2, [v0, v1]))] ++ va_pl u3.2.1 (gE cO u3.2.2)) H := hP
                          have hD : va_D A ([(qp, .inr (3, [.ref qc, .ref qt, .ref qf, .int (nI ((sp_sign tv (nI 125) (ch_loop ft tv nv 1002 A4)).1 12))])), (qt, .inr (1, [w0, w1, .ref qk, .ref ql, .ref qn, .ref qh, .ref qe])), (qk, .inl (cI, 1001, .inl fk)), (ql, .inl (cI, 1001, .inl (nF pp))), (qn, .inl (cI, 1001, .inl (nF nn))), (qh, .inl (cL, 1001, .inr (.inl fh))), (qe, .inl (cL, 1001, .inr (.inl fl))), (qf, .inr (2, [v0, v1]))] ++ va_pl u3.2.1 (gE cO u3.2.2)) := hD
                          refine W.widen (k := 4 * ((sp_sign tv (nI 125) (ch_loop ft tv nv 1002 A4)).1 12 - P0.1 12)) (n := 700 * ((sp_sign tv (nI 125) (ch_loop ft tv nv 1002 A4)).1 12 - P0.1 12)) (by omega) (by omega) ?_
                          clear hbd kt1 kt2 hroom
                          generalize (sp_sign tv (nI 125) (ch_loop ft tv nv 1002 A4)) = A5 at zd z ue rep B5 a15_5 hsc hP hD hAz hB ⊢
                          have al5 := B5.l3
                          have hroom : 4 * (A5.1 12 - P0.1 12) ≤ kcc X P0 ∧ 700 * (A5.1 12 - P0.1 12) ≤ kss X P0 := by have g9 := kcc_g X P0; omega
                          have hP : va_P (dC, dI) cl ([(qp, .inr (3, [.ref qc, .ref qt, .ref qf, .int (nI (A5.1 12))])), (qt, .inr (1, [w0, w1, .ref qk, .ref ql, .ref qn, .ref qh, .ref qe])), (qk, .inl (cI, 1001, .inl fk)), (ql, .inl (cI, 1001, .inl (nF pp))), (qn, .inl (cI, 1001, .inl (nF nn))), (qh, .inl (cL, 1001, .inr (.inl fh))), (qe, .inl (cL, 1001, .inr (.inl fl))), (qf, .inr (2, [v0, v1]))] ++ va_pl u3.2.1 (gE cO u3.2.2)) H := hP
                          have hD : va_D A ([(qp, .inr (3, [.ref qc, .ref qt, .ref qf, .int (nI (A5.1 12))])), (qt, .inr (1, [w0, w1, .ref qk, .ref ql, .ref qn, .ref qh, .ref qe])), (qk, .inl (cI, 1001, .inl fk)), (ql, .inl (cI, 1001, .inl (nF pp))), (qn, .inl (cI, 1001, .inl (nF nn))), (qh, .inl (cL, 1001, .inr (.inl fh))), (qe, .inl (cL, 1001, .inr (.inl fl))), (qf, .inr (2, [v0, v1]))] ++ va_pl u3.2.1 (gE cO u3.2.2)) := hD
                          refine nv_bif_ne (tgt := 79) hx hb d_Parser_parse_74 (by decide) (fun c_22 => ?_) (fun c_22 => ?_)
                          · refine lv_aload_n hx hb d_Parser_parse_79 rfl (lv_at hl 1 rfl) ?_
                            refine lv_iconst (v := nI 0) hx hb d_Parser_parse_80 (by decide) ?_
                            refine we_i (cx := [(qp, .inr (3, [.ref qc, .ref qt, .ref qf, .int (nI (A5.1 12))])), (qt, .inr (1, [w0, w1, .ref qk, .ref ql, .ref qn, .ref qh, .ref qe])), (qk, .inl (cI, 1001, .inl fk))]) (wr := [(ql, .inl (cI, 1001, .inl (nF pp))), (qn, .inl (cI, 1001, .inl (nF nn))), (qh, .inl (cL, 1001, .inr (.inl fh))), (qe, .inl (cL, 1001, .inr (.inl fl))), (qf, .inr (2, [v0, v1]))]) (pl := va_pl u3.2.1 (gE cO u3.2.2)) (va_runV (As := [.int (nI 0)]) (rest := []) ⟨hx, hb, hml, hown, hts⟩ (c_Parser_sees l dC dI cB cI cL cZ cC cO qp qc qt qf qk ql fk (A5.1 12) (nI 0) _ (by omega)) (cwV 1 hts (good_V k_642 k_644 s_Parser_sees k_4 k_645) rfl rfl rfl (by decide +kernel) ⟨Nat.le_of_ble_eq_true rfl, Nat.le_of_ble_eq_true rfl⟩) (wc_preV (k0 := 0) (ci := 3) (r := (R_Parser, F_Parser, 4)) hK hP hD hS hA hF [0, 1, 2] (by decide) rfl rfl rfl) rfl rfl hl.1 rfl (lv_room (Nat.le_of_ble_eq_true rfl)) d_Parser_parse_81 ⟨Nat.le_trans (by omega) hroom.1, Nat.le_trans (by omega) hroom.2⟩) hP hD hS hA [0, 1, 2] [3, 4, 5, 6, 7] rfl rfl (by decide) (by decide) (fun r_24 _ H locs w_23 hP hD hS => ?_)
                            have hP : va_P (dC, dI) cl ([(ql, .inl (cI, 1001, .inl (nF pp))), (qn, .inl (cI, 1001, .inl (nF nn))), (qh, .inl (cL, 1001, .inr (.inl fh))), (qe, .inl (cL, 1001, .inr (.inl fl))), (qf, .inr (2, [v0, v1])), (qp, .inr (3, [.ref qc, .ref qt, .ref qf, .int (nI (A5.1 12))])), (qt, .inr (1, [w0, w1, .ref qk, .ref ql, .ref qn, .ref qh, .ref qe])), (qk, .inl (cI, 1001, .inl fk))] ++ va_pl u3.2.1 (gE cO u3.2.2)) H := hP
                            have hD : va_D A ([(ql, .inl (cI, 1001, .inl (nF pp))), (qn, .inl (cI, 1001, .inl (nF nn))), (qh, .inl (cL, 1001, .inr (.inl fh))), (qe, .inl (cL, 1001, .inr (.inl fl))), (qf, .inr (2, [v0, v1])), (qp, .inr (3, [.ref qc, .ref qt, .ref qf, .int (nI (A5.1 12))])), (qt, .inr (1, [w0, w1, .ref qk, .ref ql, .ref qn, .ref qh, .ref qe])), (qk, .inl (cI, 1001, .inl fk))] ++ va_pl u3.2.1 (gE cO u3.2.2)) := hD
                            subst w_23
                            have k0 := (B5.2.1.kd B5.le).2.2.1
                            by_cases hse : fk (A5.1 12) = nI 0
                            · have hsed : decide (fk (A5.1 12) = nI 0) = true := by simp [hse]
                              refine nv_bif_eq (tgt := 89) hx hb d_Parser_parse_84 (by decide) (fun c_25 => ?_) (fun c_25 => ?_)
                              · exact absurd (hsed.symm.trans c_25) (by decide)
                              · refine lv_iconst (v := nI 1) hx hb d_Parser_parse_87 (by decide) ?_
                                have hXe : X = A5 := by rw [hX, tt_loop_s, if_pos B0.1, hsc, if_pos (k0.mp hse)]
                                refine W.widen (k := kcc X P0) (n := kss X P0) hroom.1 hroom.2 ?_
                                exact kz (A5.1 12) (v0) (v1) u3.2.1 u3.2.2 _ _ ls (by rw [hXe]; exact z) (by rw [hXe]) gl (by rw [hXe]; exact rep.re0 (by omega)) (by rw [hXe]; exact B5) (hP.part [5, 6, 7, 0, 1, 2, 3, 4] rfl) (hD.part [5, 6, 7, 0, 1, 2, 3, 4] (by decide) rfl) hS (lv_sub hl [1] rfl)
                            · have hsed : decide (fk (A5.1 12) = nI 0) = false := by simp [hse]
                              refine nv_bif_eq (tgt := 89) hx hb d_Parser_parse_84 (by decide) (fun c_26 => ?_) (fun c_26 => ?_)
                              · refine lv_iinc (v := nI (n + 1)) (lv' := [(1, .int (nI (n + 1))), (2, .ref cc), (0, .ref qp)]) hx hb d_Parser_parse_89 hl (k := 2) rfl (nI_1 _) (by decide) rfl (fun ls hl => ?_)
                                refine lv_goto (tgt := 14) hx hb d_Parser_parse_92 (by decide) ?_
                                exact ih (n + 1) A5 _ _ _ _ ls (by omega) (by omega) (by omega) gl B5.b0 (rep.re0 (by omega)) (by rw [hX, tt_loop_s, if_pos B0.1, hsc, if_neg (fun q9 => hse (k0.mpr q9)), show 1002 - (n + 1) = 1001 - n by omega]) (hP.part [5, 6, 7, 0, 1, 2, 3, 4] rfl) (hD.part [5, 6, 7, 0, 1, 2, 3, 4] (by decide) rfl) hS (lv_sub hl [2, 0] rfl)
                              · exact absurd (hsed.symm.trans c_26) (by decide)
                          · exact absurd (zd.symm.trans c_22) (by decide)
                        · have zd : decide ((sp_sign tv (nI 125) (ch_loop ft tv nv 1002 A4)).1 13 = 0) = false := by simpa using z
                          have hbad := hbd z
                          refine nv_bif_ne (tgt := 79) hx hb d_Parser_parse_74 (by decide) (fun c_27 => ?_) (fun c_27 => ?_)
                          · exact absurd (zd.symm.trans c_27) (by decide)
                          · refine lv_iconst (v := nI 0) hx hb d_Parser_parse_77 (by decide) ?_
                            refine W.widen (k := kcc X P0) (n := kss X P0) (Nat.le_trans (by omega) hroom.1) (Nat.le_trans (by omega) hroom.2) ?_
                            exact kx (u3.1.1) (u3.1.2.1) (u3.1.2.2) u3.2.1 u3.2.2 _ _ ls hbad.1 (ue.trans hbad.2.symm) gl rb hP hD hS (lv_sub hl [1] rfl)
                    · have tk_15 : wt_ok fk (A3.1 12) (nI 58) = false := by simpa using tk_15
                      rw [wt_F tk_15] at u_16e
                      subst u_16e
                      have hP : va_P (dC, dI) cl ([(qn, .inl (cI, 1001, .inl (nF nn))), (qh, .inl (cL, 1001, .inr (.inl fh))), (qe, .inl (cL, 1001, .inr (.inl fl))), (qp, .inr (3, [.ref qc, .ref qt, .ref qf, .int (nI (A3.1 12))])), (qt, .inr (1, [w0, w1, .ref qk, .ref ql, .ref qn, .ref qh, .ref qe])), (qk, .inl (cI, 1001, .inl fk)), (ql, .inl (cI, 1001, .inl (nF pp))), (qf, .inr (2, [.int (if fk (A3.1 12) = nI 2 then nI 2 else nI 1), .int (nI (pp (A3.1 12)))]))] ++ va_pl u2.2.1 (gE cO u2.2.2)) H := hP
                      have hD : va_D A ([(qn, .inl (cI, 1001, .inl (nF nn))), (qh, .inl (cL, 1001, .inr (.inl fh))), (qe, .inl (cL, 1001, .inr (.inl fl))), (qp, .inr (3, [.ref qc, .ref qt, .ref qf, .int (nI (A3.1 12))])), (qt, .inr (1, [w0, w1, .ref qk, .ref ql, .ref qn, .ref qh, .ref qe])), (qk, .inl (cI, 1001, .inl fk)), (ql, .inl (cI, 1001, .inl (nF pp))), (qf, .inr (2, [.int (if fk (A3.1 12) = nI 2 then nI 2 else nI 1), .int (nI (pp (A3.1 12)))]))] ++ va_pl u2.2.1 (gE cO u2.2.2)) := hD
                      refine nv_bif_eq (tgt := 77) hx hb d_Parser_parse_66 (by decide) (fun c_28 => ?_) (fun c_28 => ?_)
                      · refine lv_iconst (v := nI 0) hx hb d_Parser_parse_77 (by decide) ?_
                        have z4 : ¬ (sp_sign tv (nI 58) A3).1 13 = 0 := of_decide_eq_false (f1.r.symm.trans tk_15)
                        have ue := (f1.f z4).2
                        rw [wt_F tk_15] at ue
                        have hbad : ¬ X.1 13 = 0 ∧ ftv X = ftv (sp_sign tv (nI 58) A3) := by rw [hX]; exact tt_bad (f := 1001 - n) B0.1 (by rw [show sp_chip ft tv nv P = cq4 ft tv nv (sp_sign tv (nI 58) A3) from hsc]; exact stk_c4 z4) z4
                        have rb := rep.rb (by have q9 := B3.h15; omega)
                        refine W.widen (k := kcc X P0) (n := kss X P0) (Nat.le_trans (by omega) hroom.1) (Nat.le_trans (by omega) hroom.2) ?_
                        exact kx (A3.1 12) (.int (if fk (A3.1 12) = nI 2 then nI 2 else nI 1)) (.int (nI (pp (A3.1 12)))) u2.2.1 u2.2.2 _ _ ls hbad.1 (ue.trans hbad.2.symm) gl rb (hP.part [3, 4, 5, 6, 0, 1, 2, 7] rfl) (hD.part [3, 4, 5, 6, 0, 1, 2, 7] (by decide) rfl) hS (lv_sub hl [1] rfl)
                      · exact absurd (tk_15.symm.trans c_28) (by decide)
                · have tk_10 : wt_ok fk (A2.1 12) (nI 9) = false := by simpa using tk_10
                  rw [wt_F tk_10] at u_11e
                  subst u_11e
                  have hP : va_P (dC, dI) cl ([(qn, .inl (cI, 1001, .inl (nF nn))), (qh, .inl (cL, 1001, .inr (.inl fh))), (qe, .inl (cL, 1001, .inr (.inl fl))), (qp, .inr (3, [.ref qc, .ref qt, .ref qf, .int (nI (A2.1 12))])), (qt, .inr (1, [w0, w1, .ref qk, .ref ql, .ref qn, .ref qh, .ref qe])), (qk, .inl (cI, 1001, .inl fk)), (ql, .inl (cI, 1001, .inl (nF pp))), (qf, .inr (2, [.int (if fk (A2.1 12) = nI 2 then nI 2 else nI 1), .int (nI (pp (A2.1 12)))]))] ++ va_pl u2.2.1 (gE cO u2.2.2)) H := hP
                  have hD : va_D A ([(qn, .inl (cI, 1001, .inl (nF nn))), (qh, .inl (cL, 1001, .inr (.inl fh))), (qe, .inl (cL, 1001, .inr (.inl fl))), (qp, .inr (3, [.ref qc, .ref qt, .ref qf, .int (nI (A2.1 12))])), (qt, .inr (1, [w0, w1, .ref qk, .ref ql, .ref qn, .ref qh, .ref qe])), (qk, .inl (cI, 1001, .inl fk)), (ql, .inl (cI, 1001, .inl (nF pp))), (qf, .inr (2, [.int (if fk (A2.1 12) = nI 2 then nI 2 else nI 1), .int (nI (pp (A2.1 12)))]))] ++ va_pl u2.2.1 (gE cO u2.2.2)) := hD
                  refine nv_bif_eq (tgt := 77) hx hb d_Parser_parse_57 (by decide) (fun c_29 => ?_) (fun c_29 => ?_)
                  · refine lv_iconst (v := nI 0) hx hb d_Parser_parse_77 (by decide) ?_
                    have z4 : ¬ (sp_word tv (nI 3) A2).1 13 = 0 := of_decide_eq_false (f1.r.symm.trans tk_10)
                    have ue := (f1.f z4).2
                    rw [wt_F tk_10] at ue
                    have hbad : ¬ X.1 13 = 0 ∧ ftv X = ftv (sp_word tv (nI 3) A2) := by rw [hX]; exact tt_bad (f := 1001 - n) B0.1 (by rw [show sp_chip ft tv nv P = cq3 ft tv nv (sp_word tv (nI 3) A2) from hsc]; exact stk_c3 z4) z4
                    have rb := rep.rb (by have q9 := BA2.h15; omega)
                    refine W.widen (k := kcc X P0) (n := kss X P0) (Nat.le_trans (by omega) hroom.1) (Nat.le_trans (by omega) hroom.2) ?_
                    exact kx (A2.1 12) (.int (if fk (A2.1 12) = nI 2 then nI 2 else nI 1)) (.int (nI (pp (A2.1 12)))) u2.2.1 u2.2.2 _ _ ls hbad.1 (ue.trans hbad.2.symm) gl rb (hP.part [3, 4, 5, 6, 0, 1, 2, 7] rfl) (hD.part [3, 4, 5, 6, 0, 1, 2, 7] (by decide) rfl) hS (lv_sub hl [1] rfl)
                  · exact absurd (tk_10.symm.trans c_29) (by decide)
            · have zd : decide ((ch_pl tv nv true (sp_word tv (nI (1 + 1)) A1)).1 13 = 0) = false := by simpa using z
              have hbad := hbd z
              refine nv_bif_eq (tgt := 77) hx hb d_Parser_parse_48 (by decide) (fun c_30 => ?_) (fun c_30 => ?_)
              · refine lv_iconst (v := nI 0) hx hb d_Parser_parse_77 (by decide) ?_
                refine W.widen (k := kcc X P0) (n := kss X P0) (Nat.le_trans (by omega) hroom.1) (Nat.le_trans (by omega) hroom.2) ?_
                exact kx (u2.1.1) (u2.1.2.1) (u2.1.2.2) u2.2.1 u2.2.2 _ _ ls hbad.1 (ue.trans hbad.2.symm) gl rb hP hD hS (lv_sub hl [1] rfl)
              · exact absurd (zd.symm.trans c_30) (by decide)
        · have zd : decide ((ch_pl tv nv false (sp_word tv (nI (0 + 1)) V)).1 13 = 0) = false := by simpa using z
          have hbad := hbd z
          refine nv_bif_eq (tgt := 77) hx hb d_Parser_parse_37 (by decide) (fun c_31 => ?_) (fun c_31 => ?_)
          · refine lv_iconst (v := nI 0) hx hb d_Parser_parse_77 (by decide) ?_
            refine W.widen (k := kcc X P0) (n := kss X P0) (Nat.le_trans (by omega) hroom.1) (Nat.le_trans (by omega) hroom.2) ?_
            exact kx (u1.1.1) (u1.1.2.1) (u1.1.2.2) u1.2.1 u1.2.2 _ _ ls hbad.1 (ue.trans hbad.2.symm) gl rb hP hD hS (lv_sub hl [1] rfl)
          · exact absurd (zd.symm.trans c_31) (by decide)
      · subst re
        have hbad := tt_bad (f := 1001 - n) B0.1 (chip_z (ft := ft) (nv := nv) z) z
        rw [← hX] at hbad
        refine lv_astore_nN (lv' := [(2, .null), (0, .ref qp), (1, .int (nI n))]) hx hb d_Parser_parse_24 rfl hl (by decide) rfl (fun ls hl => ?_)
        refine lv_aload_nN hx hb d_Parser_parse_25 rfl (lv_at hl 0 rfl) ?_
        refine lv_ifnullN (tgt := 77) hx hb d_Parser_parse_26 (by decide) ?_
        refine lv_iconst (v := nI 0) hx hb d_Parser_parse_77 (by decide) ?_
        refine W.widen (k := kcc X P0) (n := kss X P0) (Nat.le_trans (by omega) hroom.1) (Nat.le_trans (by omega) hroom.2) ?_
        exact kx (u.1.1) (u.1.2.1) (u.1.2.2) u.2.1 u.2.2 _ _ ls hbad.1 (ue.trans hbad.2.symm) gl rb hP hD hS (lv_sub hl [1] rfl)
set_option maxHeartbeats 4000000 in
set_option maxRecDepth 100000 in
/-- parse() -/
theorem p_Parser_parse (l : Launch) (dC : Nat → ClassId) (dI : Nat → Nat → Nat) (cB cI cL cZ cC cO : ClassId) (qp qc qt qf qk ql qn qh qe : Nat) {w0 w1 : Value} (fk : Nat → Int32) (pp nn : Nat → Nat) (fh fl : Nat → Int64) {L : List Nat} {G : PG} (qna qdf T : Nat) (ft tv : Nat → Int32) (nv : Nat → Nat) (a0 : Nat) (X P : PS) (v0 v1 : Value) (t0 sz : Nat) (hX : X = tt_loop ft tv nv 1002 (tt0 P)) (hp12 : P.1 12 = 0) (hL : gL L G) (hk3 : ¬ fk 1000 = nI 3) (hnn : ∀ t, nn t ≤ 99) (hk10 : ¬ (fk 1000 = nI 10 ∨ fk 1000 = nI 11)) (htk : tke ft tv nv T P.2.2.1 fk pp nn fh fl) (hwl : wl tv nv T P) (hRB : RB t0 qc qna qdf G) : Met l y_Parser_parse w_Parser_parse ({ frames := 14, cells := (kcc X (tt0 P)), slots := (kss X (tt0 P)), locals := 900 }) (va_Pc [.ref qp] (wB2 (dC, dI) cl [(cB, .byte), (cI, .int), (cL, .long), (cZ, .boolean), (cC, .char), (cO, .object "java/lang/Object")] sz t0 ([(qp, .inr (3, [.ref qc, .ref qt, .ref qf, .int (nI a0)])), (qt, .inr (1, [w0, w1, .ref qk, .ref ql, .ref qn, .ref qh, .ref qe])), (qk, .inl (cI, 1001, .inl fk)), (ql, .inl (cI, 1001, .inl (nF pp))), (qn, .inl (cI, 1001, .inl (nF nn))), (qh, .inl (cL, 1001, .inr (.inl fh))), (qe, .inl (cL, 1001, .inr (.inl fl))), (qf, .inr (2, [v0, v1]))] ++ va_pl L (gE cO G)))) (va_Qi (fun (r : Int32) (u : (Nat × Value × Value) × List Nat × PG) => r = bI (decide (X.1 13 = 0)) ∧ gL u.2.1 u.2.2 ∧ ((X.1 13 = 0 ∧ u.1 = (X.1 12, v0, v1) ∧ RE0 t0 qc qna qdf ft tv fh fl pp nn u.2.2 X ∧ PBd ft tv nv T fk pp nn fh fl X) ∨ (¬ X.1 13 = 0 ∧ u.1.2 = ftv X ∧ RB t0 qc qna qdf u.2.2))) (fun u t => wA (dC, dI) cl [(cB, .byte), (cI, .int), (cL, .long), (cZ, .boolean), (cC, .char), (cO, .object "java/lang/Object")] (va_A ([(qp, .inr (3, [.ref qc, .ref qt, .ref qf, .int (nI a0)])), (qt, .inr (1, [w0, w1, .ref qk, .ref ql, .ref qn, .ref qh, .ref qe])), (qk, .inl (cI, 1001, .inl fk)), (ql, .inl (cI, 1001, .inl (nF pp))), (qn, .inl (cI, 1001, .inl (nF nn))), (qh, .inl (cL, 1001, .inr (.inl fh))), (qe, .inl (cL, 1001, .inr (.inl fl))), (qf, .inr (2, [v0, v1]))] ++ va_pl L (gE cO G)) sz) ([(qp, .inr (3, [.ref qc, .ref qt, .ref qf, .int (nI u.1.1)])), (qt, .inr (1, [w0, w1, .ref qk, .ref ql, .ref qn, .ref qh, .ref qe])), (qk, .inl (cI, 1001, .inl fk)), (ql, .inl (cI, 1001, .inl (nF pp))), (qn, .inl (cI, 1001, .inl (nF nn))), (qh, .inl (cL, 1001, .inr (.inl fh))), (qe, .inl (cL, 1001, .inr (.inl fl))), (qf, .inr (2, [u.1.2.1, u.1.2.2]))] ++ va_pl u.2.1 (gE cO u.2.2)) t) (va_A ([(qp, .inr (3, [.ref qc, .ref qt, .ref qf, .int (nI a0)])), (qt, .inr (1, [w0, w1, .ref qk, .ref ql, .ref qn, .ref qh, .ref qe])), (qk, .inl (cI, 1001, .inl fk)), (ql, .inl (cI, 1001, .inl (nF pp))), (qn, .inl (cI, 1001, .inl (nF nn))), (qh, .inl (cL, 1001, .inr (.inl fh))), (qe, .inl (cL, 1001, .inr (.inl fl))), (qf, .inr (2, [v0, v1]))] ++ va_pl L (gE cO G)) sz)) (kcc X (tt0 P)) (kss X (tt0 P)) (va_A ([(qp, .inr (3, [.ref qc, .ref qt, .ref qf, .int (nI a0)])), (qt, .inr (1, [w0, w1, .ref qk, .ref ql, .ref qn, .ref qh, .ref qe])), (qk, .inl (cI, 1001, .inl fk)), (ql, .inl (cI, 1001, .inl (nF pp))), (qn, .inl (cI, 1001, .inl (nF nn))), (qh, .inl (cL, 1001, .inr (.inl fh))), (qe, .inl (cL, 1001, .inr (.inl fl))), (qf, .inr (2, [v0, v1]))] ++ va_pl L (gE cO G)) sz) := by
  refine Met.ofW (cc := b_Parser_parse) (maxL := 3) (ret := (some ClassFile.FieldType.boolean)) (by decide) rfl ?_
  intro p e s m args below meth c s₁ B hml hv
  obtain ⟨rfl, ⟨hsz, hP, hK, hD0, hF⟩, hE⟩ := hv
  have hx := B.exec
  have hb := B.bytes
  have hr := B.returns
  have hts := atoms_spec (ws := w_Parser_parse) B.pre
  have hts : ∀ w ∈ tb, w.before _ s = true := fun w h => hts w (List.mem_cons_of_mem _ h)
  have hown : s.vm.findClass R_Parser = some m.cls := findClass_of_methodNamed B.named
  have hlocks := B.notSynchronized
  subst hsz
  have hD := hD0.self (sz := s.heap.size)
  generalize hAe : va_A ([(qp, .inr (3, [.ref qc, .ref qt, .ref qf, .int (nI a0)])), (qt, .inr (1, [w0, w1, .ref qk, .ref ql, .ref qn, .ref qh, .ref qe])), (qk, .inl (cI, 1001, .inl fk)), (ql, .inl (cI, 1001, .inl (nF pp))), (qn, .inl (cI, 1001, .inl (nF nn))), (qh, .inl (cL, 1001, .inr (.inl fh))), (qe, .inl (cL, 1001, .inr (.inl fl))), (qf, .inr (2, [v0, v1]))] ++ va_pl L (gE cO G)) s.heap.size = A at hD hF hE ⊢
  have hA : ∀ q : Nat, s.heap.size ≤ q → A q := fun q h => by rw [← hAe]; exact Or.inr h
  have hS : va_S A s.heap s.heap [] := va_S.rf
  have hP : va_P (dC, dI) cl ([(qp, .inr (3, [.ref qc, .ref qt, .ref qf, .int (nI a0)])), (qt, .inr (1, [w0, w1, .ref qk, .ref ql, .ref qn, .ref qh, .ref qe])), (qk, .inl (cI, 1001, .inl fk)), (ql, .inl (cI, 1001, .inl (nF pp))), (qn, .inl (cI, 1001, .inl (nF nn))), (qh, .inl (cL, 1001, .inr (.inl fh))), (qe, .inl (cL, 1001, .inr (.inl fl))), (qf, .inr (2, [v0, v1]))] ++ va_pl L (gE cO G)) s.heap := hP
  have hl := lv_entry ([.ref qp]) (n := 3) (Nat.le_of_ble_eq_true rfl)
  rw [lg_entry_eq]
  generalize (lg_sl ([.ref qp]) ++ List.replicate (3 - (lg_sl ([.ref qp])).length) Slot.unset).toArray = ls at hl ⊢
  have hl : lv_has ls 3 [(0, .ref qp)] := hl
  refine lv_aload_n hx hb d_Parser_parse_0 rfl (lv_at hl 0 rfl) ?_
  refine lv_iconst (v := nI 0) hx hb d_Parser_parse_1 (by decide) ?_
  refine va_put (D := (dC, dI)) (ci := 3) (v := .int (nI 0)) (ty := .int) (C := R_Parser) (T := F_Parser) (N := 4) hx hb hts i_Parser t_Parser t_Parser_ok n_Parser hown hK hP hD hS 0 rfl rfl 3 (by decide) (hts _ k_119) (fun _ h9 => h9) rfl (by decide +kernel) rfl rfl (Nat.le_of_ble_eq_true rfl) d_Parser_parse_2 (fun H locs hP hD hS => ?_)
  have hP : va_P (dC, dI) cl ([(qp, .inr (3, [.ref qc, .ref qt, .ref qf, .int (nI 0)])), (qt, .inr (1, [w0, w1, .ref qk, .ref ql, .ref qn, .ref qh, .ref qe])), (qk, .inl (cI, 1001, .inl fk)), (ql, .inl (cI, 1001, .inl (nF pp))), (qn, .inl (cI, 1001, .inl (nF nn))), (qh, .inl (cL, 1001, .inr (.inl fh))), (qe, .inl (cL, 1001, .inr (.inl fl))), (qf, .inr (2, [v0, v1]))] ++ va_pl L (gE cO G)) H := hP
  have hD : va_D A ([(qp, .inr (3, [.ref qc, .ref qt, .ref qf, .int (nI 0)])), (qt, .inr (1, [w0, w1, .ref qk, .ref ql, .ref qn, .ref qh, .ref qe])), (qk, .inl (cI, 1001, .inl fk)), (ql, .inl (cI, 1001, .inl (nF pp))), (qn, .inl (cI, 1001, .inl (nF nn))), (qh, .inl (cL, 1001, .inr (.inl fh))), (qe, .inl (cL, 1001, .inr (.inl fl))), (qf, .inr (2, [v0, v1]))] ++ va_pl L (gE cO G)) := hD
  refine lv_aload_n hx hb d_Parser_parse_5 rfl (lv_at hl 0 rfl) ?_
  refine va_get (D := (dC, dI)) (ci := 3) (v := .ref qc) (C := R_Parser) (T := F_Parser) (N := 4) hx hb hts i_Parser hown hK hP 0 rfl rfl 0 (by decide) (hts _ k_115) (fun _ h9 => h9) rfl d_Parser_parse_6 ?_
  obtain ⟨ad0, tg0, hT0, hq0, hG0, ys, hy, hyl⟩ := id hRB
  have hy : LSx t0 G qc ys := by rw [← hq0.1]; exact hy
  refine wd_v (cx := []) (wr := [(qp, .inr (3, [.ref qc, .ref qt, .ref qf, .int (nI 0)])), (qt, .inr (1, [w0, w1, .ref qk, .ref ql, .ref qn, .ref qh, .ref qe])), (qk, .inl (cI, 1001, .inl fk)), (ql, .inl (cI, 1001, .inl (nF pp))), (qn, .inl (cI, 1001, .inl (nF nn))), (qh, .inl (cL, 1001, .inr (.inl fh))), (qe, .inl (cL, 1001, .inr (.inl fl))), (qf, .inr (2, [v0, v1]))]) (pl := va_pl L (gE cO G)) (va_runV (As := []) (rest := []) ⟨hx, hb, hml, hown, hts⟩ (p_List_clear l dC dI cB cI cL cZ cC cO (G := G) qc ys t0 _ hL hy) (cwV 0 hts (good_V k_521 k_522 k_523 k_7 k_524) rfl rfl rfl (by decide +kernel) ⟨Nat.le_of_ble_eq_true rfl, Nat.le_of_ble_eq_true rfl⟩) (wd_preV (ci := 4) (r := (R_List, F_List, 3)) hK hP hD hS hA hF hE [] (by decide) rfl rfl (pq_at (gL_m hL hy.k.1 (by decide)) (gE_7 (G := G) hy.k.1))) rfl rfl hl.1 rfl (lv_room (Nat.le_of_ble_eq_true rfl)) d_Parser_parse_9 ⟨Nat.le_of_ble_eq_true rfl, Nat.le_of_ble_eq_true rfl⟩) hP hD hS hA [] [0, 1, 2, 3, 4, 5, 6, 7] rfl rfl (by decide) (by decide) (fun u0 H locs w_1 hP hD hS => ?_)
  have hP : va_P (dC, dI) cl ([(qp, .inr (3, [.ref qc, .ref qt, .ref qf, .int (nI 0)])), (qt, .inr (1, [w0, w1, .ref qk, .ref ql, .ref qn, .ref qh, .ref qe])), (qk, .inl (cI, 1001, .inl fk)), (ql, .inl (cI, 1001, .inl (nF pp))), (qn, .inl (cI, 1001, .inl (nF nn))), (qh, .inl (cL, 1001, .inr (.inl fh))), (qe, .inl (cL, 1001, .inr (.inl fl))), (qf, .inr (2, [v0, v1]))] ++ va_pl L (gE cO u0)) H := hP
  have hD : va_D A ([(qp, .inr (3, [.ref qc, .ref qt, .ref qf, .int (nI 0)])), (qt, .inr (1, [w0, w1, .ref qk, .ref ql, .ref qn, .ref qh, .ref qe])), (qk, .inl (cI, 1001, .inl fk)), (ql, .inl (cI, 1001, .inl (nF pp))), (qn, .inl (cI, 1001, .inl (nF nn))), (qh, .inl (cL, 1001, .inr (.inl fh))), (qe, .inl (cL, 1001, .inr (.inl fl))), (qf, .inr (2, [v0, v1]))] ++ va_pl L (gE cO u0)) := hD
  obtain ⟨hy0, hL, hlf⟩ := w_1
  refine lv_iconst (v := nI 0) hx hb d_Parser_parse_12 (by decide) ?_
  refine lv_istore_n (lv' := [(1, .int (nI 0)), (0, .ref qp)]) hx hb d_Parser_parse_13 rfl hl (by decide) rfl (fun ls hl => ?_)
  have hR0 : RE0 t0 qc qna qdf ft tv fh fl pp nn u0 (tt0 P) := RB.clear (P := tt0 P) hRB hy0 hlf rfl rfl rfl rfl rfl
  have e0 : (tt0 P).1 12 = 0 := hp12
  have hP : va_P (dC, dI) cl ([(qp, .inr (3, [.ref qc, .ref qt, .ref qf, .int (nI ((tt0 P).1 12))])), (qt, .inr (1, [w0, w1, .ref qk, .ref ql, .ref qn, .ref qh, .ref qe])), (qk, .inl (cI, 1001, .inl fk)), (ql, .inl (cI, 1001, .inl (nF pp))), (qn, .inl (cI, 1001, .inl (nF nn))), (qh, .inl (cL, 1001, .inr (.inl fh))), (qe, .inl (cL, 1001, .inr (.inl fl))), (qf, .inr (2, [v0, v1]))] ++ va_pl L (gE cO u0)) H := by rw [e0]; exact hP
  have hD : va_D A ([(qp, .inr (3, [.ref qc, .ref qt, .ref qf, .int (nI ((tt0 P).1 12))])), (qt, .inr (1, [w0, w1, .ref qk, .ref ql, .ref qn, .ref qh, .ref qe])), (qk, .inl (cI, 1001, .inl fk)), (ql, .inl (cI, 1001, .inl (nF pp))), (qn, .inl (cI, 1001, .inl (nF nn))), (qh, .inl (cL, 1001, .inr (.inl fh))), (qe, .inl (cL, 1001, .inr (.inl fl))), (qf, .inr (2, [v0, v1]))] ++ va_pl L (gE cO u0)) := by rw [e0]; exact hD
  have w0' := wl_tt0 hwl
  have B0 : PB0 ft tv nv T fk pp nn fh fl (tt0 P) := ⟨rfl, htk, w0'.1, w0'.2, (SI_tt0 ft tv nv P).1⟩
  refine W.widen (k := 4 * ((tt0 P).1 12 - (tt0 P).1 12)) (n := 700 * ((tt0 P).1 12 - (tt0 P).1 12)) (Nat.zero_le _) (Nat.zero_le _) ?_
  refine lp_Parser_parse (v0 := v0) (v1 := v1) (X := X) (P0 := tt0 P) (T := T) (ft := ft) (tv := tv) (nv := nv) (qna := qna) (qdf := qdf) hk3 hnn hk10 hx hb hml hown hts hA hF hE hK (fun a9 w8 w9 L G H locs ls hx0 hw hL hB hP hD hS hl => ?_) (fun a9 w8 w9 L G H locs ls hx0 hw hL hg1 hg2 hP hD hS hl => ?_) 9 0 (tt0 P) _ _ _ _ ls (by omega) (Nat.zero_le _) (Nat.le_refl _) hL B0 hR0 hX hP hD hS (lv_sub hl [1, 0] rfl)
  · exact wr_z (x := false) hx hb hr hlocks ((a9, w8, w9), L, G) ⟨by rw [show decide (X.1 13 = 0) = false from by simpa using hx0], hL, Or.inr ⟨hx0, hw, hB⟩⟩ hK hP hD hS d_Parser_parse_78
  · exact wr_z (x := true) hx hb hr hlocks ((a9, w8, w9), L, G) ⟨by rw [show decide (X.1 13 = 0) = true from by simpa using hx0], hL, Or.inl ⟨hx0, hw, hg1, hg2⟩⟩ hK hP hD hS d_Parser_parse_88
