theorem d_Parser_parseParts_0 : decode b_Parser_parseParts 0 = .ok (.iconst 0, 1) := by decide +kernel
theorem d_Parser_parseParts_1 : decode b_Parser_parseParts 1 = .ok (.istore_n 2, 1) := by decide +kernel
theorem d_Parser_parseParts_2 : decode b_Parser_parseParts 2 = .ok (.iload_n 2, 1) := by decide +kernel
theorem d_Parser_parseParts_3 : decode b_Parser_parseParts 3 = .ok (.bipush 12, 2) := by decide +kernel
theorem d_Parser_parseParts_5 : decode b_Parser_parseParts 5 = .ok (.if_icmp .gt 87, 3) := by decide +kernel
theorem d_Parser_parseParts_8 : decode b_Parser_parseParts 8 = .ok (.aload_n 0, 1) := by decide +kernel
theorem d_Parser_parseParts_9 : decode b_Parser_parseParts 9 = .ok (.bipush 125, 2) := by decide +kernel
theorem d_Parser_parseParts_11 : decode b_Parser_parseParts 11 = .ok (.invokevirtual 79, 3) := by decide +kernel
theorem d_Parser_parseParts_14 : decode b_Parser_parseParts 14 = .ok (.ifCond .eq 5, 3) := by decide +kernel
theorem d_Parser_parseParts_17 : decode b_Parser_parseParts 17 = .ok (.iconst 1, 1) := by decide +kernel
theorem d_Parser_parseParts_18 : decode b_Parser_parseParts 18 = .ok (.ireturn, 1) := by decide +kernel
theorem d_Parser_parseParts_19 : decode b_Parser_parseParts 19 = .ok (.aload_n 0, 1) := by decide +kernel
theorem d_Parser_parseParts_20 : decode b_Parser_parseParts 20 = .ok (.aload_n 1, 1) := by decide +kernel
theorem d_Parser_parseParts_21 : decode b_Parser_parseParts 21 = .ok (.getfield 103, 3) := by decide +kernel
theorem d_Parser_parseParts_24 : decode b_Parser_parseParts 24 = .ok (.invokevirtual 54, 3) := by decide +kernel
theorem d_Parser_parseParts_27 : decode b_Parser_parseParts 27 = .ok (.bipush 12, 2) := by decide +kernel
theorem d_Parser_parseParts_29 : decode b_Parser_parseParts 29 = .ok (.if_icmp .ge 7, 3) := by decide +kernel
theorem d_Parser_parseParts_32 : decode b_Parser_parseParts 32 = .ok (.iconst 1, 1) := by decide +kernel
theorem d_Parser_parseParts_33 : decode b_Parser_parseParts 33 = .ok (.goto 4, 3) := by decide +kernel
theorem d_Parser_parseParts_36 : decode b_Parser_parseParts 36 = .ok (.iconst 0, 1) := by decide +kernel
theorem d_Parser_parseParts_37 : decode b_Parser_parseParts 37 = .ok (.invokevirtual 58, 3) := by decide +kernel
theorem d_Parser_parseParts_40 : decode b_Parser_parseParts 40 = .ok (.ifCond .ne 5, 3) := by decide +kernel
theorem d_Parser_parseParts_43 : decode b_Parser_parseParts 43 = .ok (.iconst 0, 1) := by decide +kernel
theorem d_Parser_parseParts_44 : decode b_Parser_parseParts 44 = .ok (.ireturn, 1) := by decide +kernel
theorem d_Parser_parseParts_45 : decode b_Parser_parseParts 45 = .ok (.new 106, 3) := by decide +kernel
theorem d_Parser_parseParts_48 : decode b_Parser_parseParts 48 = .ok (.dup, 1) := by decide +kernel
theorem d_Parser_parseParts_49 : decode b_Parser_parseParts 49 = .ok (.aload_n 0, 1) := by decide +kernel
theorem d_Parser_parseParts_50 : decode b_Parser_parseParts 50 = .ok (.invokevirtual 64, 3) := by decide +kernel
theorem d_Parser_parseParts_53 : decode b_Parser_parseParts 53 = .ok (.invokespecial 108, 3) := by decide +kernel
theorem d_Parser_parseParts_56 : decode b_Parser_parseParts 56 = .ok (.astore_n 3, 1) := by decide +kernel
theorem d_Parser_parseParts_57 : decode b_Parser_parseParts 57 = .ok (.aload_n 1, 1) := by decide +kernel
theorem d_Parser_parseParts_58 : decode b_Parser_parseParts 58 = .ok (.getfield 103, 3) := by decide +kernel
theorem d_Parser_parseParts_61 : decode b_Parser_parseParts 61 = .ok (.aload_n 3, 1) := by decide +kernel
theorem d_Parser_parseParts_62 : decode b_Parser_parseParts 62 = .ok (.invokevirtual 71, 3) := by decide +kernel
theorem d_Parser_parseParts_65 : decode b_Parser_parseParts 65 = .ok (.pop, 1) := by decide +kernel
theorem d_Parser_parseParts_66 : decode b_Parser_parseParts 66 = .ok (.aload_n 0, 1) := by decide +kernel
theorem d_Parser_parseParts_67 : decode b_Parser_parseParts 67 = .ok (.bipush 40, 2) := by decide +kernel
theorem d_Parser_parseParts_69 : decode b_Parser_parseParts 69 = .ok (.invokevirtual 43, 3) := by decide +kernel
theorem d_Parser_parseParts_72 : decode b_Parser_parseParts 72 = .ok (.ifCond .eq 12, 3) := by decide +kernel
theorem d_Parser_parseParts_75 : decode b_Parser_parseParts 75 = .ok (.aload_n 0, 1) := by decide +kernel
theorem d_Parser_parseParts_76 : decode b_Parser_parseParts 76 = .ok (.aload_n 1, 1) := by decide +kernel
theorem d_Parser_parseParts_77 : decode b_Parser_parseParts 77 = .ok (.aload_n 3, 1) := by decide +kernel
theorem d_Parser_parseParts_78 : decode b_Parser_parseParts 78 = .ok (.invokevirtual 111, 3) := by decide +kernel
theorem d_Parser_parseParts_81 : decode b_Parser_parseParts 81 = .ok (.ifCond .ne 5, 3) := by decide +kernel
theorem d_Parser_parseParts_84 : decode b_Parser_parseParts 84 = .ok (.iconst 0, 1) := by decide +kernel
theorem d_Parser_parseParts_85 : decode b_Parser_parseParts 85 = .ok (.ireturn, 1) := by decide +kernel
theorem d_Parser_parseParts_86 : decode b_Parser_parseParts 86 = .ok (.iinc 2 1, 3) := by decide +kernel
theorem d_Parser_parseParts_89 : decode b_Parser_parseParts 89 = .ok (.goto (-87), 3) := by decide +kernel
theorem d_Parser_parseParts_92 : decode b_Parser_parseParts 92 = .ok (.iconst 0, 1) := by decide +kernel
theorem d_Parser_parseParts_93 : decode b_Parser_parseParts 93 = .ok (.ireturn, 1) := by decide +kernel
set_option maxHeartbeats 4000000 in
set_option maxRecDepth 100000 in
theorem lp_Parser_parseParts {p : Program} {l : Launch} {e : Env} {s : State} {m : MethodId} {args : Array Value} {below : List Frame} {meth : Method} {c : Code} {Q : State → Prop} {A : Nat → Prop} {dC : Nat → ClassId} {dI : Nat → Nat → Nat} {cB cI cL cZ cC cO : ClassId} {t0 : Nat} {qp qc qt qf qk ql qn qh qe : Nat} {w0 w1 : Value} {fk : Nat → Int32} {pp nn : Nat → Nat} {fh fl : Nat → Int64} {qna qdf T : Nat} {ft tv : Nat → Int32} {nv : Nat → Nat} {mm c0 : Nat} {v0 v1 : Value} {X P0 : PS} (hk3 : ¬ fk 1000 = nI 3) (hnn : ∀ t, nn t ≤ 99) (hk10 : ¬ (fk 1000 = nI 10 ∨ fk 1000 = nI 11)) (hx : p.tables.exec = Jvm.exec) (hb : c.code = b_Parser_parseParts) (hml : c.maxLocals = 4) (hown : s.vm.findClass R_Parser = some m.cls) (hts : ∀ w ∈ tb, w.before args s = true) (hA : ∀ q, s.heap.size ≤ q → A q) (hF : stF A s) (hE : stE A t0 s) (hK : va_K (dC, dI) cl [(cB, .byte), (cI, .int), (cL, .long), (cZ, .boolean), (cC, .char), (cO, .object "java/lang/Object")] s)
    (kz : ∀ (a9 : Nat) (w8 w9 : Value) (L : List Nat) (G : PG) (H : Heap) (locs : List Loc) (ls : Array Slot), X.1 13 = 0 → (a9, w8, w9) = (X.1 12, v0, v1) → gL L G → REP t0 qc qna qdf ft tv fh fl pp nn mm G X c0 → PBd ft tv nv T fk pp nn fh fl X → X.1 15 = P0.1 15 → va_P (dC, dI) cl ([(qp, .inr (3, [.ref qc, .ref qt, .ref qf, .int (nI a9)])), (qt, .inr (1, [w0, w1, .ref qk, .ref ql, .ref qn, .ref qh, .ref qe])), (qk, .inl (cI, 1001, .inl fk)), (ql, .inl (cI, 1001, .inl (nF pp))), (qn, .inl (cI, 1001, .inl (nF nn))), (qh, .inl (cL, 1001, .inr (.inl fh))), (qe, .inl (cL, 1001, .inr (.inl fl))), (qf, .inr (2, [w8, w9]))] ++ va_pl L (gE cO G)) H → va_D A ([(qp, .inr (3, [.ref qc, .ref qt, .ref qf, .int (nI a9)])), (qt, .inr (1, [w0, w1, .ref qk, .ref ql, .ref qn, .ref qh, .ref qe])), (qk, .inl (cI, 1001, .inl fk)), (ql, .inl (cI, 1001, .inl (nF pp))), (qn, .inl (cI, 1001, .inl (nF nn))), (qh, .inl (cL, 1001, .inr (.inl fh))), (qe, .inl (cL, 1001, .inr (.inl fl))), (qf, .inr (2, [w8, w9]))] ++ va_pl L (gE cO G)) → va_S A s.heap H locs → lv_has ls 4 [(0, .ref qp)] → W p l e (headSpec w_Parser_parseParts { frames := 13, cells := (kcc X P0), slots := (kss X P0), locals := 830 }).room s m args below meth c H locs (kcc X P0) (kss X P0) Q (F0 m 18 ls [.int (nI 1)])) (kw : ∀ (a9 : Nat) (w8 w9 : Value) (L : List Nat) (G : PG) (H : Heap) (locs : List Loc) (ls : Array Slot), ¬ X.1 13 = 0 → (w8, w9) = ftv X → gL L G → RB t0 qc qna qdf G → va_P (dC, dI) cl ([(qp, .inr (3, [.ref qc, .ref qt, .ref qf, .int (nI a9)])), (qt, .inr (1, [w0, w1, .ref qk, .ref ql, .ref qn, .ref qh, .ref qe])), (qk, .inl (cI, 1001, .inl fk)), (ql, .inl (cI, 1001, .inl (nF pp))), (qn, .inl (cI, 1001, .inl (nF nn))), (qh, .inl (cL, 1001, .inr (.inl fh))), (qe, .inl (cL, 1001, .inr (.inl fl))), (qf, .inr (2, [w8, w9]))] ++ va_pl L (gE cO G)) H → va_D A ([(qp, .inr (3, [.ref qc, .ref qt, .ref qf, .int (nI a9)])), (qt, .inr (1, [w0, w1, .ref qk, .ref ql, .ref qn, .ref qh, .ref qe])), (qk, .inl (cI, 1001, .inl fk)), (ql, .inl (cI, 1001, .inl (nF pp))), (qn, .inl (cI, 1001, .inl (nF nn))), (qh, .inl (cL, 1001, .inr (.inl fh))), (qe, .inl (cL, 1001, .inr (.inl fl))), (qf, .inr (2, [w8, w9]))] ++ va_pl L (gE cO G)) → va_S A s.heap H locs → lv_has ls 4 [(0, .ref qp)] → W p l e (headSpec w_Parser_parseParts { frames := 13, cells := (kcc X P0), slots := (kss X P0), locals := 830 }).room s m args below meth c H locs (kcc X P0) (kss X P0) Q (F0 m 44 ls [.int (nI 0)])) (kx : ∀ (a9 : Nat) (w8 w9 : Value) (L : List Nat) (G : PG) (H : Heap) (locs : List Loc) (ls : Array Slot), ¬ X.1 13 = 0 → (w8, w9) = ftv X → gL L G → RB t0 qc qna qdf G → va_P (dC, dI) cl ([(qp, .inr (3, [.ref qc, .ref qt, .ref qf, .int (nI a9)])), (qt, .inr (1, [w0, w1, .ref qk, .ref ql, .ref qn, .ref qh, .ref qe])), (qk, .inl (cI, 1001, .inl fk)), (ql, .inl (cI, 1001, .inl (nF pp))), (qn, .inl (cI, 1001, .inl (nF nn))), (qh, .inl (cL, 1001, .inr (.inl fh))), (qe, .inl (cL, 1001, .inr (.inl fl))), (qf, .inr (2, [w8, w9]))] ++ va_pl L (gE cO G)) H → va_D A ([(qp, .inr (3, [.ref qc, .ref qt, .ref qf, .int (nI a9)])), (qt, .inr (1, [w0, w1, .ref qk, .ref ql, .ref qn, .ref qh, .ref qe])), (qk, .inl (cI, 1001, .inl fk)), (ql, .inl (cI, 1001, .inl (nF pp))), (qn, .inl (cI, 1001, .inl (nF nn))), (qh, .inl (cL, 1001, .inr (.inl fh))), (qe, .inl (cL, 1001, .inr (.inl fl))), (qf, .inr (2, [w8, w9]))] ++ va_pl L (gE cO G)) → va_S A s.heap H locs → lv_has ls 4 [(0, .ref qp)] → W p l e (headSpec w_Parser_parseParts { frames := 13, cells := (kcc X P0), slots := (kss X P0), locals := 830 }).room s m args below meth c H locs (kcc X P0) (kss X P0) Q (F0 m 85 ls [.int (nI 0)])) :
    ∀ (k : Nat) (n : Nat) (P : PS) (L : List Nat) (G : PG) (H : Heap) (locs : List Loc) (ls : Array Slot), 12 < n + k → n ≤ P.1 24 - P.2.2.1 23 (P.1 15 - 1) → P0.1 12 ≤ P.1 12 → gL L G → PBd ft tv nv T fk pp nn fh fl P → REP t0 qc qna qdf ft tv fh fl pp nn mm G P c0 → mm = P.1 15 → P.1 15 = P0.1 15 → X = sp_sign tv (nI 125) (ch_loop ft tv nv (1002 - n) P) → va_P (dC, dI) cl ([(qp, .inr (3, [.ref qc, .ref qt, .ref qf, .int (nI (P.1 12))])), (qt, .inr (1, [w0, w1, .ref qk, .ref ql, .ref qn, .ref qh, .ref qe])), (qk, .inl (cI, 1001, .inl fk)), (ql, .inl (cI, 1001, .inl (nF pp))), (qn, .inl (cI, 1001, .inl (nF nn))), (qh, .inl (cL, 1001, .inr (.inl fh))), (qe, .inl (cL, 1001, .inr (.inl fl))), (qf, .inr (2, [v0, v1]))] ++ va_pl L (gE cO G)) H → va_D A ([(qp, .inr (3, [.ref qc, .ref qt, .ref qf, .int (nI (P.1 12))])), (qt, .inr (1, [w0, w1, .ref qk, .ref ql, .ref qn, .ref qh, .ref qe])), (qk, .inl (cI, 1001, .inl fk)), (ql, .inl (cI, 1001, .inl (nF pp))), (qn, .inl (cI, 1001, .inl (nF nn))), (qh, .inl (cL, 1001, .inr (.inl fh))), (qe, .inl (cL, 1001, .inr (.inl fl))), (qf, .inr (2, [v0, v1]))] ++ va_pl L (gE cO G)) → va_S A s.heap H locs → lv_has ls 4 [(0, .ref qp), (1, .ref c0), (2, .int (nI n))] → W p l e (headSpec w_Parser_parseParts { frames := 13, cells := (kcc X P0), slots := (kss X P0), locals := 830 }).room s m args below meth c H locs (4 * (P.1 12 - P0.1 12)) (700 * (P.1 12 - P0.1 12)) Q (F0 m 2 ls []) := by
  intro k
  induction k with
  | zero =>
    intro n P L G H locs ls hk9 hn h0 hL Bd hR hmm e15 hX hP hD hS hl
    exfalso; have q9 := Bd.2.2.2.1.2.1; omega
  | succ k ih =>
    intro n P L G H locs ls hk9 hn h0 hL Bd hR hmm e15 hX hP hD hS hl
    have hcb := Bd.2.2.2.1.2.1
    have hb3 := Bd.l3
    refine lv_iload_n hx hb d_Parser_parseParts_2 rfl (lv_at hl 2 rfl) ?_
    refine lv_bipush (v := nI 12) hx hb d_Parser_parseParts_3 (by decide) ?_
    refine nv_icmp_gt (tgt := 92) hx hb (by omega) (by omega) d_Parser_parseParts_5 (by decide) (fun c_1 => ?_) (fun c_1 => ?_)
    · exfalso; omega
    · have hX := hX.trans (show sp_sign tv (nI 125) (ch_loop ft tv nv (1002 - n) P) = sp_sign tv (nI 125) (ch_loop ft tv nv ((1001 - n) + 1) P) by rw [show 1002 - n = (1001 - n) + 1 by omega])
      have hroom : 4 * (P.1 12 - P0.1 12) ≤ kcc X P0 ∧ 700 * (P.1 12 - P0.1 12) ≤ kss X P0 := by
        have g9 := kcc_g X P0
        have l9 : P.1 12 ≤ X.1 12 := by rw [hX]; exact Nat.le_trans (z12_ch _ P) (z12_sign _ _ _)
        omega
      refine lv_aload_n hx hb d_Parser_parseParts_8 rfl (lv_at hl 0 rfl) ?_
      refine lv_bipush (v := nI 125) hx hb d_Parser_parseParts_9 (by decide) ?_
      refine we_i (cx := [(qp, .inr (3, [.ref qc, .ref qt, .ref qf, .int (nI (P.1 12))])), (qt, .inr (1, [w0, w1, .ref qk, .ref ql, .ref qn, .ref qh, .ref qe])), (qk, .inl (cI, 1001, .inl fk))]) (wr := [(ql, .inl (cI, 1001, .inl (nF pp))), (qn, .inl (cI, 1001, .inl (nF nn))), (qh, .inl (cL, 1001, .inr (.inl fh))), (qe, .inl (cL, 1001, .inr (.inl fl))), (qf, .inr (2, [v0, v1]))]) (pl := va_pl L (gE cO G)) (va_runV (As := [.int (nI 125)]) (rest := []) ⟨hx, hb, hml, hown, hts⟩ (c_Parser_takes l dC dI cB cI cL cZ cC cO qp qc qt qf qk ql fk (P.1 12) (nI 125) _ (by omega)) (cwV 1 hts (good_V k_563 k_565 s_Parser_takes k_4 k_566) rfl rfl rfl (by decide +kernel) ⟨Nat.le_of_ble_eq_true rfl, Nat.le_of_ble_eq_true rfl⟩) (wc_preV (k0 := 0) (ci := 3) (r := (R_Parser, F_Parser, 4)) hK hP hD hS hA hF [0, 1, 2] (by decide) rfl rfl rfl) rfl rfl hl.1 rfl (lv_room (Nat.le_of_ble_eq_true rfl)) d_Parser_parseParts_11 ⟨Nat.le_trans (by omega) hroom.1, Nat.le_trans (by omega) hroom.2⟩) hP hD hS hA [0, 1, 2] [3, 4, 5, 6, 7] rfl rfl (by decide) (by decide) (fun r_5 u_3 H locs w_4 hP hD hS => ?_)
      have hP : va_P (dC, dI) cl ([(ql, .inl (cI, 1001, .inl (nF pp))), (qn, .inl (cI, 1001, .inl (nF nn))), (qh, .inl (cL, 1001, .inr (.inl fh))), (qe, .inl (cL, 1001, .inr (.inl fl))), (qf, .inr (2, [v0, v1])), (qp, .inr (3, [.ref qc, .ref qt, .ref qf, .int (nI u_3)])), (qt, .inr (1, [w0, w1, .ref qk, .ref ql, .ref qn, .ref qh, .ref qe])), (qk, .inl (cI, 1001, .inl fk))] ++ va_pl L (gE cO G)) H := hP
      have hD : va_D A ([(ql, .inl (cI, 1001, .inl (nF pp))), (qn, .inl (cI, 1001, .inl (nF nn))), (qh, .inl (cL, 1001, .inr (.inl fh))), (qe, .inl (cL, 1001, .inr (.inl fl))), (qf, .inr (2, [v0, v1])), (qp, .inr (3, [.ref qc, .ref qt, .ref qf, .int (nI u_3)])), (qt, .inr (1, [w0, w1, .ref qk, .ref ql, .ref qn, .ref qh, .ref qe])), (qk, .inl (cI, 1001, .inl fk))] ++ va_pl L (gE cO G)) := hD
      obtain ⟨r_5e, u_3e⟩ := w_4
      subst r_5e
      by_cases tk_2 : wt_ok fk (P.1 12) (nI 125) = true
      · rw [if_pos tk_2] at u_3e
        subst u_3e
        have hb_tk_2 : (P.1 12) < 1000 := wt_lt tk_2
        refine nv_bif_eq (tgt := 19) hx hb d_Parser_parseParts_14 (by decide) (fun c_6 => ?_) (fun c_6 => ?_)
        · exact absurd (tk_2.symm.trans c_6) (by decide)
        · refine lv_iconst (v := nI 1) hx hb d_Parser_parseParts_17 (by decide) ?_
          have sg1 : sg tv (nI 125) P = true := (by rw [← tk_2]; exact (Bd.2.1.sg Bd.le (n := 125) (by decide) (by decide)).symm)
          have hX1 : X = sp_sign tv (nI 125) P := by rw [hX, ch_u Bd.1, if_neg (by rw [sg1]; decide)]
          have e1 : sp_sign tv (nI 125) P = sp_go P := if_pos sg1
          have z1 : X.1 13 = 0 := by rw [hX1, e1]; exact Bd.1
          have e12 : X.1 12 = P.1 12 + 1 := by rw [hX1, e1]; exact go12 Bd.1
          refine W.widen (k := kcc X P0) (n := kss X P0) hroom.1 hroom.2 ?_
          exact kz ((P.1 12) + 1) (v0) (v1) L G _ _ ls z1 (by rw [e12]) hL (by rw [hX1]; exact hR.sgn) (by rw [hX1]; exact Bd.sgn (by rw [← hX1]; exact z1)) (by rw [hX1, zk_sign (by decide) (by decide) (by decide)]; exact e15) (hP.part [5, 6, 7, 0, 1, 2, 3, 4] rfl) (hD.part [5, 6, 7, 0, 1, 2, 3, 4] (by decide) rfl) hS (lv_sub hl [0] rfl)
      · have tk_2 : wt_ok fk (P.1 12) (nI 125) = false := by simpa using tk_2
        rw [if_neg (by rw [tk_2]; decide)] at u_3e
        replace u_3e := u_3e.symm
        subst u_3e
        refine nv_bif_eq (tgt := 19) hx hb d_Parser_parseParts_14 (by decide) (fun c_7 => ?_) (fun c_7 => ?_)
        · have sgf : sg tv (nI 125) P = false := (by rw [← tk_2]; exact (Bd.2.1.sg Bd.le (n := 125) (by decide) (by decide)).symm)
          have hroom := ch_room (ft := ft) (f := 1001 - n) Bd sgf h0
          rw [← hX] at hroom
          obtain ⟨ad, tg, hRX, hc0⟩ := id hR
          obtain ⟨⟨k6, kp, ki, kq⟩, l1, l2, l3⟩ := hRX.cur Bd.h15.1 hc0
          have h8 := Bd.h15
          refine lv_aload_n hx hb d_Parser_parseParts_19 rfl (lv_at hl 0 rfl) ?_
          refine lv_aload_n hx hb d_Parser_parseParts_20 rfl (lv_at hl 1 rfl) ?_
          refine pq_get (D := (dC, dI)) (ci := 6) (v := .ref (ad 4 (P.1 15 - 1))) (C := R_Chip) (T := F_Chip) (N := 9) hx hb hts i_Chip hown hK hP (gL_m hL k6 (by decide)) (gE_6 (G := G) k6) rfl 5 (by decide) (hts _ k_181) (fun _ h9 => h9) (congrArg (fun z9 => some (va_rf z9)) kq) d_Parser_parseParts_21 ?_
          refine wd_i (cx := []) (wr := [(ql, .inl (cI, 1001, .inl (nF pp))), (qn, .inl (cI, 1001, .inl (nF nn))), (qh, .inl (cL, 1001, .inr (.inl fh))), (qe, .inl (cL, 1001, .inr (.inl fl))), (qf, .inr (2, [v0, v1])), (qp, .inr (3, [.ref qc, .ref qt, .ref qf, .int (nI (P.1 12))])), (qt, .inr (1, [w0, w1, .ref qk, .ref ql, .ref qn, .ref qh, .ref qe])), (qk, .inl (cI, 1001, .inl fk))]) (pl := va_pl L (gE cO G)) (va_runV (As := []) (rest := [.ref qp]) ⟨hx, hb, hml, hown, hts⟩ (p_List_size l dC dI cB cI cL cZ cC cO (G := G) (ad 4 (P.1 15 - 1)) t0 _ hL l3.k.1) (cwV 0 hts (good_V k_537 k_325 k_326 k_7 k_327) rfl rfl rfl (by decide +kernel) ⟨Nat.le_of_ble_eq_true rfl, Nat.le_of_ble_eq_true rfl⟩) (wd_preV (ci := 4) (r := (R_List, F_List, 3)) hK hP hD hS hA hF hE [] (by decide) rfl rfl (pq_at (gL_m hL l3.k.1 (by decide)) (gE_7 (G := G) l3.k.1))) rfl rfl hl.1 rfl (lv_room (Nat.le_of_ble_eq_true rfl)) d_Parser_parseParts_24 ⟨Nat.le_trans (by omega) hroom.1, Nat.le_trans (by omega) hroom.2⟩) hP hD hS hA [] [0, 1, 2, 3, 4, 5, 6, 7] rfl rfl (by decide) (by decide) (fun r_9 _ H locs w_8 hP hD hS => ?_)
          have hP : va_P (dC, dI) cl ([(ql, .inl (cI, 1001, .inl (nF pp))), (qn, .inl (cI, 1001, .inl (nF nn))), (qh, .inl (cL, 1001, .inr (.inl fh))), (qe, .inl (cL, 1001, .inr (.inl fl))), (qf, .inr (2, [v0, v1])), (qp, .inr (3, [.ref qc, .ref qt, .ref qf, .int (nI (P.1 12))])), (qt, .inr (1, [w0, w1, .ref qk, .ref ql, .ref qn, .ref qh, .ref qe])), (qk, .inl (cI, 1001, .inl fk))] ++ va_pl L (gE cO G)) H := hP
          have hD : va_D A ([(ql, .inl (cI, 1001, .inl (nF pp))), (qn, .inl (cI, 1001, .inl (nF nn))), (qh, .inl (cL, 1001, .inr (.inl fh))), (qe, .inl (cL, 1001, .inr (.inl fl))), (qf, .inr (2, [v0, v1])), (qp, .inr (3, [.ref qc, .ref qt, .ref qf, .int (nI (P.1 12))])), (qt, .inr (1, [w0, w1, .ref qk, .ref ql, .ref qn, .ref qh, .ref qe])), (qk, .inl (cI, 1001, .inl fk))] ++ va_pl L (gE cO G)) := hD
          rw [l3.k.2, rga_len] at w_8
          subst w_8
          refine lv_bipush (v := nI 12) hx hb d_Parser_parseParts_27 (by decide) ?_
          refine nv_icmp_ge (tgt := 36) hx hb (by omega) (by omega) d_Parser_parseParts_29 (by decide) (fun c_10 => ?_) (fun c_10 => ?_)
          · refine lv_iconst (v := nI 0) hx hb d_Parser_parseParts_36 (by decide) ?_
            refine we_i (cx := [(qp, .inr (3, [.ref qc, .ref qt, .ref qf, .int (nI (P.1 12))])), (qt, .inr (1, [w0, w1, .ref qk, .ref ql, .ref qn, .ref qh, .ref qe])), (qk, .inl (cI, 1001, .inl fk)), (ql, .inl (cI, 1001, .inl (nF pp))), (qf, .inr (2, [v0, v1]))]) (wr := [(qn, .inl (cI, 1001, .inl (nF nn))), (qh, .inl (cL, 1001, .inr (.inl fh))), (qe, .inl (cL, 1001, .inr (.inl fl)))]) (pl := va_pl L (gE cO G)) (va_runV (As := [.int (nI 0)]) (rest := []) ⟨hx, hb, hml, hown, hts⟩ (c_Parser_wantNameWithRoom l dC dI cB cI cL cZ cC cO qp qc qt qf qk ql v0 v1 fk (nF pp) (P.1 12) false _ (by omega)) (cwV 1 hts (good_V k_538 k_540 s_Parser_wantNameWithRoom k_4 k_541) rfl rfl rfl (by decide +kernel) ⟨Nat.le_of_ble_eq_true rfl, Nat.le_of_ble_eq_true rfl⟩) (wc_preV (k0 := 5) (ci := 3) (r := (R_Parser, F_Parser, 4)) hK hP hD hS hA hF [5, 6, 7, 0, 4] (by decide) rfl rfl rfl) rfl rfl hl.1 rfl (lv_room (Nat.le_of_ble_eq_true rfl)) d_Parser_parseParts_37 ⟨Nat.le_trans (by omega) hroom.1, Nat.le_trans (by omega) hroom.2⟩) hP hD hS hA [5, 6, 7, 0, 4] [1, 2, 3] rfl rfl (by decide) (by decide) (fun r_14 u_12 H locs w_13 hP hD hS => ?_)
            have hP : va_P (dC, dI) cl ([(qn, .inl (cI, 1001, .inl (nF nn))), (qh, .inl (cL, 1001, .inr (.inl fh))), (qe, .inl (cL, 1001, .inr (.inl fl))), (qp, .inr (3, [.ref qc, .ref qt, .ref qf, .int (nI (P.1 12))])), (qt, .inr (1, [w0, w1, .ref qk, .ref ql, .ref qn, .ref qh, .ref qe])), (qk, .inl (cI, 1001, .inl fk)), (ql, .inl (cI, 1001, .inl (nF pp))), (qf, .inr (2, [u_12.1, u_12.2]))] ++ va_pl L (gE cO G)) H := hP
            have hD : va_D A ([(qn, .inl (cI, 1001, .inl (nF nn))), (qh, .inl (cL, 1001, .inr (.inl fh))), (qe, .inl (cL, 1001, .inr (.inl fl))), (qp, .inr (3, [.ref qc, .ref qt, .ref qf, .int (nI (P.1 12))])), (qt, .inr (1, [w0, w1, .ref qk, .ref ql, .ref qn, .ref qh, .ref qe])), (qk, .inl (cI, 1001, .inl fk)), (ql, .inl (cI, 1001, .inl (nF pp))), (qf, .inr (2, [u_12.1, u_12.2]))] ++ va_pl L (gE cO G)) := hD
            obtain ⟨r_14e, u_12e⟩ := w_13
            subst r_14e
            have tk_11 : wn_ok fk (P.1 12) false = false := by unfold wn_ok; simp
            rw [wn_F tk_11] at u_12e
            subst u_12e
            have hP : va_P (dC, dI) cl ([(qn, .inl (cI, 1001, .inl (nF nn))), (qh, .inl (cL, 1001, .inr (.inl fh))), (qe, .inl (cL, 1001, .inr (.inl fl))), (qp, .inr (3, [.ref qc, .ref qt, .ref qf, .int (nI (P.1 12))])), (qt, .inr (1, [w0, w1, .ref qk, .ref ql, .ref qn, .ref qh, .ref qe])), (qk, .inl (cI, 1001, .inl fk)), (ql, .inl (cI, 1001, .inl (nF pp))), (qf, .inr (2, [.int (if fk (P.1 12) = nI 3 ∨ fk (P.1 12) = nI 2 then nI 2 else nI 1), .int (nI (pp (P.1 12)))]))] ++ va_pl L (gE cO G)) H := hP
            have hD : va_D A ([(qn, .inl (cI, 1001, .inl (nF nn))), (qh, .inl (cL, 1001, .inr (.inl fh))), (qe, .inl (cL, 1001, .inr (.inl fl))), (qp, .inr (3, [.ref qc, .ref qt, .ref qf, .int (nI (P.1 12))])), (qt, .inr (1, [w0, w1, .ref qk, .ref ql, .ref qn, .ref qh, .ref qe])), (qk, .inl (cI, 1001, .inl fk)), (ql, .inl (cI, 1001, .inl (nF pp))), (qf, .inr (2, [.int (if fk (P.1 12) = nI 3 ∨ fk (P.1 12) = nI 2 then nI 2 else nI 1), .int (nI (pp (P.1 12)))]))] ++ va_pl L (gE cO G)) := hD
            refine nv_bif_ne (tgt := 45) hx hb d_Parser_parseParts_40 (by decide) (fun c_15 => ?_) (fun c_15 => ?_)
            · exact absurd (tk_11.symm.trans c_15) (by decide)
            · refine lv_iconst (v := nI 0) hx hb d_Parser_parseParts_43 (by decide) ?_
              have hy : decide (P.1 24 - P.2.2.1 23 (P.1 15 - 1) < 12) = false := by simp; omega
              have kn : ¬ (P.2.2.1 7 (P.1 12) = 1 ∧ decide (P.1 24 - P.2.2.1 23 (P.1 15 - 1) < 12) = true) := fun q9 => by rw [hy] at q9; cases q9.2
              obtain ⟨w0, f0⟩ := fz_name (v0 := v0) (v1 := v1) Bd.2.1 Bd.1 Bd.le _ kn (P.1 12)
              rw [hy, wn_F tk_11, ← part_no (ft := ft) (tv := tv) (nv := nv) Bd.1 kn] at f0
              have zp : ¬ (sp_part ft tv nv P).1 13 = 0 := fun q9 => by have q8 := f0.t q9; cases q8.1
              have ue := (f0.f zp).2
              have hbad := ch_bad (f := 1001 - n) Bd.1 sgf zp
              rw [← hX] at hbad
              refine W.widen (k := kcc X P0) (n := kss X P0) (Nat.le_trans (by omega) hroom.1) (Nat.le_trans (by omega) hroom.2) ?_
              exact kw (P.1 12) (.int (if fk (P.1 12) = nI 3 ∨ fk (P.1 12) = nI 2 then nI 2 else nI 1)) (.int (nI (pp (P.1 12)))) L G _ _ ls hbad.1 (ue.trans hbad.2.symm) hL (hR.rb (by omega)) (hP.part [3, 4, 5, 6, 0, 1, 2, 7] rfl) (hD.part [3, 4, 5, 6, 0, 1, 2, 7] (by decide) rfl) hS (lv_sub hl [0] rfl)
          · refine lv_iconst (v := nI 1) hx hb d_Parser_parseParts_32 (by decide) ?_
            refine lv_goto (tgt := 37) hx hb d_Parser_parseParts_33 (by decide) ?_
            refine we_i (cx := [(qp, .inr (3, [.ref qc, .ref qt, .ref qf, .int (nI (P.1 12))])), (qt, .inr (1, [w0, w1, .ref qk, .ref ql, .ref qn, .ref qh, .ref qe])), (qk, .inl (cI, 1001, .inl fk)), (ql, .inl (cI, 1001, .inl (nF pp))), (qf, .inr (2, [v0, v1]))]) (wr := [(qn, .inl (cI, 1001, .inl (nF nn))), (qh, .inl (cL, 1001, .inr (.inl fh))), (qe, .inl (cL, 1001, .inr (.inl fl)))]) (pl := va_pl L (gE cO G)) (va_runV (As := [.int (nI 1)]) (rest := []) ⟨hx, hb, hml, hown, hts⟩ (c_Parser_wantNameWithRoom l dC dI cB cI cL cZ cC cO qp qc qt qf qk ql v0 v1 fk (nF pp) (P.1 12) true _ (by omega)) (cwV 1 hts (good_V k_538 k_540 s_Parser_wantNameWithRoom k_4 k_541) rfl rfl rfl (by decide +kernel) ⟨Nat.le_of_ble_eq_true rfl, Nat.le_of_ble_eq_true rfl⟩) (wc_preV (k0 := 5) (ci := 3) (r := (R_Parser, F_Parser, 4)) hK hP hD hS hA hF [5, 6, 7, 0, 4] (by decide) rfl rfl rfl) rfl rfl hl.1 rfl (lv_room (Nat.le_of_ble_eq_true rfl)) d_Parser_parseParts_37 ⟨Nat.le_trans (by omega) hroom.1, Nat.le_trans (by omega) hroom.2⟩) hP hD hS hA [5, 6, 7, 0, 4] [1, 2, 3] rfl rfl (by decide) (by decide) (fun r_19 u_17 H locs w_18 hP hD hS => ?_)
            have hP : va_P (dC, dI) cl ([(qn, .inl (cI, 1001, .inl (nF nn))), (qh, .inl (cL, 1001, .inr (.inl fh))), (qe, .inl (cL, 1001, .inr (.inl fl))), (qp, .inr (3, [.ref qc, .ref qt, .ref qf, .int (nI (P.1 12))])), (qt, .inr (1, [w0, w1, .ref qk, .ref ql, .ref qn, .ref qh, .ref qe])), (qk, .inl (cI, 1001, .inl fk)), (ql, .inl (cI, 1001, .inl (nF pp))), (qf, .inr (2, [u_17.1, u_17.2]))] ++ va_pl L (gE cO G)) H := hP
            have hD : va_D A ([(qn, .inl (cI, 1001, .inl (nF nn))), (qh, .inl (cL, 1001, .inr (.inl fh))), (qe, .inl (cL, 1001, .inr (.inl fl))), (qp, .inr (3, [.ref qc, .ref qt, .ref qf, .int (nI (P.1 12))])), (qt, .inr (1, [w0, w1, .ref qk, .ref ql, .ref qn, .ref qh, .ref qe])), (qk, .inl (cI, 1001, .inl fk)), (ql, .inl (cI, 1001, .inl (nF pp))), (qf, .inr (2, [u_17.1, u_17.2]))] ++ va_pl L (gE cO G)) := hD
            obtain ⟨r_19e, u_17e⟩ := w_18
            subst r_19e
            by_cases tk_16 : wn_ok fk (P.1 12) true = true
            · rw [wn_T tk_16] at u_17e
              subst u_17e
              have hb_tk_16 : (P.1 12) < 1000 := wn_lt hk3 (by omega) tk_16
              have hP : va_P (dC, dI) cl ([(qn, .inl (cI, 1001, .inl (nF nn))), (qh, .inl (cL, 1001, .inr (.inl fh))), (qe, .inl (cL, 1001, .inr (.inl fl))), (qp, .inr (3, [.ref qc, .ref qt, .ref qf, .int (nI (P.1 12))])), (qt, .inr (1, [w0, w1, .ref qk, .ref ql, .ref qn, .ref qh, .ref qe])), (qk, .inl (cI, 1001, .inl fk)), (ql, .inl (cI, 1001, .inl (nF pp))), (qf, .inr (2, [v0, v1]))] ++ va_pl L (gE cO G)) H := hP
              have hD : va_D A ([(qn, .inl (cI, 1001, .inl (nF nn))), (qh, .inl (cL, 1001, .inr (.inl fh))), (qe, .inl (cL, 1001, .inr (.inl fl))), (qp, .inr (3, [.ref qc, .ref qt, .ref qf, .int (nI (P.1 12))])), (qt, .inr (1, [w0, w1, .ref qk, .ref ql, .ref qn, .ref qh, .ref qe])), (qk, .inl (cI, 1001, .inl fk)), (ql, .inl (cI, 1001, .inl (nF pp))), (qf, .inr (2, [v0, v1]))] ++ va_pl L (gE cO G)) := hD
              refine nv_bif_ne (tgt := 45) hx hb d_Parser_parseParts_40 (by decide) (fun c_20 => ?_) (fun c_20 => ?_)
              · refine pq_new (ci := 10) (fs := [.null, .null, .null]) (C := R_Part) (T := F_Part) (N := 3) (fn := fun q9 => gE cO (g0 G q9 5)) hx hb hts i_Part t_Part t_Part_ok hown (hts _ k_575) (hts _ k_576) (hts _ k_20) hK hP hD hS hA rfl (fun j hj => by rcases (show j = 0 ∨ j = 1 ∨ j = 2 by omega) with rfl | rfl | rfl <;> rfl) (Nat.le_trans (by omega) hroom.1) (Nat.le_trans (by omega) hroom.2) (fun q9 => nE_5 (G := G) q9) d_Parser_parseParts_45 (fun q_21 H nq_21 hP hD hS => ?_)
                have kf_22 : (g0 G q_21 5).1 c0 = 6 := (g0_k hL k6 (by decide) nq_21)
                have ne_23 : c0 ≠ q_21 := g0_ne hL k6 (by decide) nq_21
                have kf_24 : (g0 G q_21 5).1 (ad 4 (P.1 15 - 1)) = 7 := (g0_k hL l3.k.1 (by decide) nq_21)
                have ne_25 : (ad 4 (P.1 15 - 1)) ≠ q_21 := g0_ne hL l3.k.1 (by decide) nq_21
                have fa_26 : (g0 G q_21 5).2.2.2.2.2 c0 5 = some (ad 4 (P.1 15 - 1)) := (congrFun ((gs_0 ne_23).2.2.2.2.2) 5).trans kq
                have hL0 := hL
                have hz9 : G.1 q_21 = 0 := g0_n hL nq_21
                replace hL := gL_new (a := q_21) (n := 5) hL
                have hP : va_P (dC, dI) cl ([(qn, .inl (cI, 1001, .inl (nF nn))), (qh, .inl (cL, 1001, .inr (.inl fh))), (qe, .inl (cL, 1001, .inr (.inl fl))), (qp, .inr (3, [.ref qc, .ref qt, .ref qf, .int (nI (P.1 12))])), (qt, .inr (1, [w0, w1, .ref qk, .ref ql, .ref qn, .ref qh, .ref qe])), (qk, .inl (cI, 1001, .inl fk)), (ql, .inl (cI, 1001, .inl (nF pp))), (qf, .inr (2, [v0, v1]))] ++ va_pl (L ++ [q_21]) (gE cO (g0 G q_21 5))) H := hP
                have hD : va_D A ([(qn, .inl (cI, 1001, .inl (nF nn))), (qh, .inl (cL, 1001, .inr (.inl fh))), (qe, .inl (cL, 1001, .inr (.inl fl))), (qp, .inr (3, [.ref qc, .ref qt, .ref qf, .int (nI (P.1 12))])), (qt, .inr (1, [w0, w1, .ref qk, .ref ql, .ref qn, .ref qh, .ref qe])), (qk, .inl (cI, 1001, .inl fk)), (ql, .inl (cI, 1001, .inl (nF pp))), (qf, .inr (2, [v0, v1]))] ++ va_pl (L ++ [q_21]) (gE cO (g0 G q_21 5))) := hD
                refine lv_dup hx hb d_Parser_parseParts_48 rfl ?_
                refine lv_aload_n hx hb d_Parser_parseParts_49 rfl (lv_at hl 0 rfl) ?_
                have hzq : G.1 q_21 = 0 := hz9
                refine we_q (cx := [(qp, .inr (3, [.ref qc, .ref qt, .ref qf, .int (nI (P.1 12))])), (qt, .inr (1, [w0, w1, .ref qk, .ref ql, .ref qn, .ref qh, .ref qe])), (ql, .inl (cI, 1001, .inl (nF pp))), (qh, .inl (cL, 1001, .inr (.inl fh))), (qe, .inl (cL, 1001, .inr (.inl fl)))]) (wr := [(qn, .inl (cI, 1001, .inl (nF nn))), (qk, .inl (cI, 1001, .inl fk)), (qf, .inr (2, [v0, v1]))]) (pl := va_pl (L ++ [q_21]) (gE cO (g0 G q_21 5))) (va_runV (As := []) (rest := [.ref q_21, .ref q_21]) ⟨hx, hb, hml, hown, hts⟩ (c_Parser_takeName l dC dI cB cI cL cZ cC cO qp qt ql qh qe (nF pp) fh fl (P.1 12) _ (by omega)) (cwV 0 hts (good_V k_543 k_545 s_Parser_takeName k_4 k_546) rfl rfl rfl (by decide +kernel) ⟨Nat.le_of_ble_eq_true rfl, Nat.le_of_ble_eq_true rfl⟩) (wc_preV (k0 := 3) (ci := 3) (r := (R_Parser, F_Parser, 4)) hK hP hD hS hA hF [3, 4, 6, 1, 2] (by decide) rfl rfl rfl) rfl rfl hl.1 rfl (lv_room (Nat.le_of_ble_eq_true rfl)) d_Parser_parseParts_50 ⟨Nat.le_trans (by omega) hroom.1, Nat.le_trans (by omega) hroom.2⟩) hP hD hS hA [3, 4, 6, 1, 2] [0, 5, 7] rfl rfl (by decide) (by decide) (fun r_28 nm1 H locs w_27 hP hD hS => ?_)
                have hP : va_P (dC, dI) cl ([(qn, .inl (cI, 1001, .inl (nF nn))), (qk, .inl (cI, 1001, .inl fk)), (qf, .inr (2, [v0, v1])), (qp, .inr (3, [.ref qc, .ref qt, .ref qf, .int (nI (min (P.1 12 + 1) 1000))])), (qt, .inr (1, [w0, w1, .ref qk, .ref ql, .ref qn, .ref qh, .ref qe])), (ql, .inl (cI, 1001, .inl (nF pp))), (qh, .inl (cL, 1001, .inr (.inl fh))), (qe, .inl (cL, 1001, .inr (.inl fl))), (nm1, .inr (7, [.long (fh (P.1 12)), .long (fl (P.1 12)), .int (nI (pp (P.1 12)))]))] ++ va_pl (L ++ [q_21]) (gE cO (g0 G q_21 5))) H := hP
                have hD : va_D A ([(qn, .inl (cI, 1001, .inl (nF nn))), (qk, .inl (cI, 1001, .inl fk)), (qf, .inr (2, [v0, v1])), (qp, .inr (3, [.ref qc, .ref qt, .ref qf, .int (nI (min (P.1 12 + 1) 1000))])), (qt, .inr (1, [w0, w1, .ref qk, .ref ql, .ref qn, .ref qh, .ref qe])), (ql, .inl (cI, 1001, .inl (nF pp))), (qh, .inl (cL, 1001, .inr (.inl fh))), (qe, .inl (cL, 1001, .inr (.inl fl))), (nm1, .inr (7, [.long (fh (P.1 12)), .long (fl (P.1 12)), .int (nI (pp (P.1 12)))]))] ++ va_pl (L ++ [q_21]) (gE cO (g0 G q_21 5))) := hD
                subst w_27
                obtain ⟨nnm1, hP, hD⟩ := pq_in (X := [(qn, .inl (cI, 1001, .inl (nF nn))), (qk, .inl (cI, 1001, .inl fk)), (qf, .inr (2, [v0, v1])), (qp, .inr (3, [.ref qc, .ref qt, .ref qf, .int (nI (min (P.1 12 + 1) 1000))])), (qt, .inr (1, [w0, w1, .ref qk, .ref ql, .ref qn, .ref qh, .ref qe])), (ql, .inl (cI, 1001, .inl (nF pp))), (qh, .inl (cL, 1001, .inr (.inl fh))), (qe, .inl (cL, 1001, .inr (.inl fl)))]) hP hD
                have hP : va_P (dC, dI) cl ([(qn, .inl (cI, 1001, .inl (nF nn))), (qk, .inl (cI, 1001, .inl fk)), (qf, .inr (2, [v0, v1])), (qp, .inr (3, [.ref qc, .ref qt, .ref qf, .int (nI (min (P.1 12 + 1) 1000))])), (qt, .inr (1, [w0, w1, .ref qk, .ref ql, .ref qn, .ref qh, .ref qe])), (ql, .inl (cI, 1001, .inl (nF pp))), (qh, .inl (cL, 1001, .inr (.inl fh))), (qe, .inl (cL, 1001, .inr (.inl fl)))] ++ va_pl (L ++ [q_21] ++ [nm1]) (gE cO (nam (g0 G q_21 5) nm1 (fh (P.1 12)) (fl (P.1 12)) (some (pp (P.1 12)))))) H := by rw [← namE]; exact hP
                have hD : va_D A ([(qn, .inl (cI, 1001, .inl (nF nn))), (qk, .inl (cI, 1001, .inl fk)), (qf, .inr (2, [v0, v1])), (qp, .inr (3, [.ref qc, .ref qt, .ref qf, .int (nI (min (P.1 12 + 1) 1000))])), (qt, .inr (1, [w0, w1, .ref qk, .ref ql, .ref qn, .ref qh, .ref qe])), (ql, .inl (cI, 1001, .inl (nF pp))), (qh, .inl (cL, 1001, .inr (.inl fh))), (qe, .inl (cL, 1001, .inr (.inl fl)))] ++ va_pl (L ++ [q_21] ++ [nm1]) (gE cO (nam (g0 G q_21 5) nm1 (fh (P.1 12)) (fl (P.1 12)) (some (pp (P.1 12)))))) := by rw [← namE]; exact hD
                obtain ⟨z11, z12, z13⟩ := isN_new (q := nm1) (hh := fh (P.1 12)) (tt := fl (P.1 12)) (pl := some (pp (P.1 12))) hL
                have hq1 : (g0 G q_21 5).1 nm1 = 0 := g0_n hL nnm1
                generalize nam (g0 G q_21 5) nm1 (fh (P.1 12)) (fl (P.1 12)) (some (pp (P.1 12))) = T1 at hP hD z11 z12 z13
                have hL := z12
                rw [show min (P.1 12 + 1) 1000 = P.1 12 + 1 by omega] at hP hD
                have hP : va_P (dC, dI) cl ([(qn, .inl (cI, 1001, .inl (nF nn))), (qk, .inl (cI, 1001, .inl fk)), (qf, .inr (2, [v0, v1])), (qp, .inr (3, [.ref qc, .ref qt, .ref qf, .int (nI ((P.1 12) + 1))])), (qt, .inr (1, [w0, w1, .ref qk, .ref ql, .ref qn, .ref qh, .ref qe])), (ql, .inl (cI, 1001, .inl (nF pp))), (qh, .inl (cL, 1001, .inr (.inl fh))), (qe, .inl (cL, 1001, .inr (.inl fl)))] ++ va_pl (L ++ [q_21] ++ [nm1]) (gE cO T1)) H := hP
                have hD : va_D A ([(qn, .inl (cI, 1001, .inl (nF nn))), (qk, .inl (cI, 1001, .inl fk)), (qf, .inr (2, [v0, v1])), (qp, .inr (3, [.ref qc, .ref qt, .ref qf, .int (nI ((P.1 12) + 1))])), (qt, .inr (1, [w0, w1, .ref qk, .ref ql, .ref qn, .ref qh, .ref qe])), (ql, .inl (cI, 1001, .inl (nF pp))), (qh, .inl (cL, 1001, .inr (.inl fh))), (qe, .inl (cL, 1001, .inr (.inl fl)))] ++ va_pl (L ++ [q_21] ++ [nm1]) (gE cO T1)) := hD
                have kf_29 : T1.1 c0 = 6 := (z13 c0 (fun e9 => absurd ((kf_22).symm.trans ((congrArg (g0 G q_21 5).1 e9).trans hq1)) (by decide))).1.trans kf_22
                have kf_30 : T1.1 (ad 4 (P.1 15 - 1)) = 7 := (z13 (ad 4 (P.1 15 - 1)) (fun e9 => absurd ((kf_24).symm.trans ((congrArg (g0 G q_21 5).1 e9).trans hq1)) (by decide))).1.trans kf_24
                have kf_31 : T1.1 q_21 = 5 := (z13 q_21 (fun e9 => absurd (((g0_q G q_21 5)).symm.trans ((congrArg (g0 G q_21 5).1 e9).trans hq1)) (by decide))).1.trans (g0_q G q_21 5)
                refine wd_v (cx := []) (wr := [(qn, .inl (cI, 1001, .inl (nF nn))), (qk, .inl (cI, 1001, .inl fk)), (qf, .inr (2, [v0, v1])), (qp, .inr (3, [.ref qc, .ref qt, .ref qf, .int (nI ((P.1 12) + 1))])), (qt, .inr (1, [w0, w1, .ref qk, .ref ql, .ref qn, .ref qh, .ref qe])), (ql, .inl (cI, 1001, .inl (nF pp))), (qh, .inl (cL, 1001, .inr (.inl fh))), (qe, .inl (cL, 1001, .inr (.inl fl)))]) (pl := va_pl (L ++ [q_21] ++ [nm1]) (gE cO T1)) (va_runI (As := [.ref nm1]) (rest := [.ref q_21]) ⟨hx, hb, hml, hown, hts⟩ (p_Part_init l dC dI cB cI cL cZ cC cO (G := T1) q_21 nm1 t0 _ hL kf_31) (cwI 1 hts (good_c k_579) rfl rfl rfl (hts _ k_20) (hts _ k_577) (hts _ k_578) rfl (by decide +kernel) ⟨Nat.le_of_ble_eq_true rfl, Nat.le_of_ble_eq_true rfl⟩) (wd_preS hK hP hD hS hA hF hE [] (by decide) rfl) rfl rfl hl.1 rfl (lv_room (Nat.le_of_ble_eq_true rfl)) d_Parser_parseParts_53 ⟨Nat.le_trans (by omega) hroom.1, Nat.le_trans (by omega) hroom.2⟩) hP hD hS hA [] [0, 1, 2, 3, 4, 5, 6, 7] rfl rfl (by decide) (by decide) (fun v9 H locs w_32 hP hD hS => ?_)
                have hP : va_P (dC, dI) cl ([(qn, .inl (cI, 1001, .inl (nF nn))), (qk, .inl (cI, 1001, .inl fk)), (qf, .inr (2, [v0, v1])), (qp, .inr (3, [.ref qc, .ref qt, .ref qf, .int (nI ((P.1 12) + 1))])), (qt, .inr (1, [w0, w1, .ref qk, .ref ql, .ref qn, .ref qh, .ref qe])), (ql, .inl (cI, 1001, .inl (nF pp))), (qh, .inl (cL, 1001, .inr (.inl fh))), (qe, .inl (cL, 1001, .inr (.inl fl)))] ++ va_pl (L ++ [q_21] ++ [nm1] ++ [v9]) (gE cO (prn t0 T1 q_21 nm1 v9))) H := hP
                have hD : va_D A ([(qn, .inl (cI, 1001, .inl (nF nn))), (qk, .inl (cI, 1001, .inl fk)), (qf, .inr (2, [v0, v1])), (qp, .inr (3, [.ref qc, .ref qt, .ref qf, .int (nI ((P.1 12) + 1))])), (qt, .inr (1, [w0, w1, .ref qk, .ref ql, .ref qn, .ref qh, .ref qe])), (ql, .inl (cI, 1001, .inl (nF pp))), (qh, .inl (cL, 1001, .inr (.inl fh))), (qe, .inl (cL, 1001, .inr (.inl fl)))] ++ va_pl (L ++ [q_21] ++ [nm1] ++ [v9]) (gE cO (prn t0 T1 q_21 nm1 v9))) := hD
                have nv9 := w_32
                obtain ⟨iq, l0, hL2⟩ := prn_new (t0 := t0) (nm := nm1) hL kf_31 nv9
                have hqn : q_21 ≠ nm1 := fun e9 => by have q9 := kf_31; rw [e9, z11.1] at q9; cases q9
                have hzv : T1.1 v9 = 0 := g0_n hL nv9
                have hnm : G.1 nm1 = 0 := by have q9 := hq1; rw [(gs_0 (Ne.symm hqn)).1] at q9; exact q9
                have in1 : isN (prn t0 T1 q_21 nm1 v9) nm1 _ _ _ := z11.keep (prn_gs (Ne.symm hqn) (fun e9 => by have q9 := z11.1; rw [e9, hzv] at q9; cases q9))
                have hfr0 : ∀ b, G.1 b ≠ 0 → gs G T1 b := fun b h9 => (gs_0 (fun e9 => h9 (by rw [e9]; exact hzq))).tr (z13 b (fun e9 => h9 (by rw [e9]; exact hnm)))
                have hfr : ∀ b, G.1 b ≠ 0 → gs G (prn t0 T1 q_21 nm1 v9) b := fun b h9 => (hfr0 b h9).tr (prn_gs (fun e9 => h9 (by rw [e9]; exact hzq)) (fun e9 => h9 (by rw [← (hfr0 b h9).1, e9]; exact hzv)))
                have hgv : G.1 v9 = 0 := Classical.byContradiction (fun h9 => h9 ((hfr0 v9 h9).1.symm.trans hzv))
                have hL := hL2
                generalize prn t0 T1 q_21 nm1 v9 = G1 at hP hD iq l0 hL in1 hfr
                have gc := hfr c0 (by rw [k6]; decide)
                have k6' := gc.1.trans k6
                have kq' : G1.2.2.2.2.2 c0 5 = some (ad 4 (P.1 15 - 1)) := by rw [gc.2.2.2.2.2]; exact kq
                have l3' := LSx_old l3 hfr
                refine lv_astore_n (lv' := [(3, .ref q_21), (0, .ref qp), (1, .ref c0), (2, .int (nI n))]) hx hb d_Parser_parseParts_56 rfl hl (by decide) rfl (fun ls hl => ?_)
                refine lv_aload_n hx hb d_Parser_parseParts_57 rfl (lv_at hl 2 rfl) ?_
                refine pq_get (D := (dC, dI)) (ci := 6) (v := .ref (ad 4 (P.1 15 - 1))) (C := R_Chip) (T := F_Chip) (N := 9) hx hb hts i_Chip hown hK hP (gL_m hL k6' (by decide)) (gE_6 (G := G1) k6') rfl 5 (by decide) (hts _ k_181) (fun _ h9 => h9) (congrArg (fun z9 => some (va_rf z9)) kq') d_Parser_parseParts_58 ?_
                refine lv_aload_n hx hb d_Parser_parseParts_61 rfl (lv_at hl 0 rfl) ?_
                refine wd_i (cx := []) (wr := [(qn, .inl (cI, 1001, .inl (nF nn))), (qk, .inl (cI, 1001, .inl fk)), (qf, .inr (2, [v0, v1])), (qp, .inr (3, [.ref qc, .ref qt, .ref qf, .int (nI ((P.1 12) + 1))])), (qt, .inr (1, [w0, w1, .ref qk, .ref ql, .ref qn, .ref qh, .ref qe])), (ql, .inl (cI, 1001, .inl (nF pp))), (qh, .inl (cL, 1001, .inr (.inl fh))), (qe, .inl (cL, 1001, .inr (.inl fl)))]) (pl := va_pl (L ++ [q_21] ++ [nm1] ++ [v9]) (gE cO G1)) (va_runV (As := [.ref q_21]) (rest := []) ⟨hx, hb, hml, hown, hts⟩ (p_List_add l dC dI cB cI cL cZ cC cO (G := G1) (ad 4 (P.1 15 - 1)) q_21 (rga (ad 9) (P.2.2.1 23 (P.1 15 - 1)) (P.1 24)) t0 _ hL l3' (by rw [iq.1]; decide) (by rw [rga_len]; omega)) (cwV 1 hts (good_V k_551 k_255 k_256 k_7 k_257) rfl rfl rfl (by decide +kernel) ⟨Nat.le_of_ble_eq_true rfl, Nat.le_of_ble_eq_true rfl⟩) (wd_preV (ci := 4) (r := (R_List, F_List, 3)) hK hP hD hS hA hF hE [] (by decide) rfl rfl (pq_at (gL_m hL l3'.k.1 (by decide)) (gE_7 (G := G1) l3'.k.1))) rfl rfl hl.1 rfl (lv_room (Nat.le_of_ble_eq_true rfl)) d_Parser_parseParts_62 ⟨Nat.le_trans (by omega) hroom.1, Nat.le_trans (by omega) hroom.2⟩) hP hD hS hA [] [0, 1, 2, 3, 4, 5, 6, 7] rfl rfl (by decide) (by decide) (fun r_35 u7 H locs w_34 hP hD hS => ?_)
                have hP : va_P (dC, dI) cl ([(qn, .inl (cI, 1001, .inl (nF nn))), (qk, .inl (cI, 1001, .inl fk)), (qf, .inr (2, [v0, v1])), (qp, .inr (3, [.ref qc, .ref qt, .ref qf, .int (nI ((P.1 12) + 1))])), (qt, .inr (1, [w0, w1, .ref qk, .ref ql, .ref qn, .ref qh, .ref qe])), (ql, .inl (cI, 1001, .inl (nF pp))), (qh, .inl (cL, 1001, .inr (.inl fh))), (qe, .inl (cL, 1001, .inr (.inl fl)))] ++ va_pl u7.1 (gE cO u7.2)) H := hP
                have hD : va_D A ([(qn, .inl (cI, 1001, .inl (nF nn))), (qk, .inl (cI, 1001, .inl fk)), (qf, .inr (2, [v0, v1])), (qp, .inr (3, [.ref qc, .ref qt, .ref qf, .int (nI ((P.1 12) + 1))])), (qt, .inr (1, [w0, w1, .ref qk, .ref ql, .ref qn, .ref qh, .ref qe])), (ql, .inl (cI, 1001, .inl (nF pp))), (qh, .inl (cL, 1001, .inr (.inl fh))), (qe, .inl (cL, 1001, .inr (.inl fl)))] ++ va_pl u7.1 (gE cO u7.2)) := hD
                obtain ⟨r_35e, hu7⟩ := w_34
                subst r_35e
                have hL := hu7.2.1
                have iq := iq.keep (hu7.2.2.kd2 l3'.k.1 (by rw [iq.1]; decide))
                have in1 := in1.keep (hu7.2.2.kd2 l3'.k.1 (by rw [in1.1]; decide))
                have lv9 : LSx t0 u7.2 v9 [] := LS0.x l0 (hu7.2.2 v9 (by rw [l0.1]; decide) (fun e9 => by rw [e9, l3.k.1] at hgv; cases hgv) (fun q9 => by have := q9.1; rw [l0.1] at this; omega))
                have hfs : LFs G u7.2 (fun b => b = (ad 4 (P.1 15 - 1))) := (LFs_of hfr _).tr (LFs_LF hu7.2.2 l3'.k.1 hu7.1.k.1)
                refine lv_pop hx hb d_Parser_parseParts_65 rfl ?_
                have k1 : P.2.2.1 7 (P.1 12) = 1 := by
                  have q8 := Bd.2.1.wn Bd.le true
                  rw [tk_16] at q8; simpa using q8.symm
                have hr12 : P.1 24 - P.2.2.1 23 (P.1 15 - 1) < 12 := by omega
                obtain ⟨BY, ey12, ey15, ycq, xp⟩ := Bd.part k1 hr12
                obtain ⟨ad', tg', rx, rc, rq⟩ := RX.part hRX Bd.2.2.2.2.2.1 Bd.2.2.2.2.2.2.1 xp h8.1 (frh0 hzq) (frh0 hnm) (frh0 hgv) in1 iq lv9 hu7.1 hfs
                have rep : REQ t0 qc qna qdf ft tv fh fl pp nn mm u7.2 (sp_go (pt2 P)) c0 q_21 := ⟨ad', tg', rx, rc.trans hc0, rq⟩
                clear rx rc rq xp
                rw [← ey12] at hP hD
                have hP : va_P (dC, dI) cl ([(qn, .inl (cI, 1001, .inl (nF nn))), (qk, .inl (cI, 1001, .inl fk)), (qf, .inr (2, [v0, v1])), (qp, .inr (3, [.ref qc, .ref qt, .ref qf, .int (nI ((sp_go (pt2 P)).1 12))])), (qt, .inr (1, [w0, w1, .ref qk, .ref ql, .ref qn, .ref qh, .ref qe])), (ql, .inl (cI, 1001, .inl (nF pp))), (qh, .inl (cL, 1001, .inr (.inl fh))), (qe, .inl (cL, 1001, .inr (.inl fl)))] ++ va_pl u7.1 (gE cO u7.2)) H := hP
                have hD : va_D A ([(qn, .inl (cI, 1001, .inl (nF nn))), (qk, .inl (cI, 1001, .inl fk)), (qf, .inr (2, [v0, v1])), (qp, .inr (3, [.ref qc, .ref qt, .ref qf, .int (nI ((sp_go (pt2 P)).1 12))])), (qt, .inr (1, [w0, w1, .ref qk, .ref ql, .ref qn, .ref qh, .ref qe])), (ql, .inl (cI, 1001, .inl (nF pp))), (qh, .inl (cL, 1001, .inr (.inl fh))), (qe, .inl (cL, 1001, .inr (.inl fl)))] ++ va_pl u7.1 (gE cO u7.2)) := hD
                have yl3 := BY.l3
                obtain ⟨f1, f2⟩ := fz_sign (v0 := v0) (v1 := v1) BY.2.1 BY.1 BY.le (n := 40) (by decide) (by decide)
                refine lv_aload_n hx hb d_Parser_parseParts_66 rfl (lv_at hl 1 rfl) ?_
                refine lv_bipush (v := nI 40) hx hb d_Parser_parseParts_67 (by decide) ?_
                refine we_i (cx := [(qp, .inr (3, [.ref qc, .ref qt, .ref qf, .int (nI ((sp_go (pt2 P)).1 12))])), (qt, .inr (1, [w0, w1, .ref qk, .ref ql, .ref qn, .ref qh, .ref qe])), (qk, .inl (cI, 1001, .inl fk)), (ql, .inl (cI, 1001, .inl (nF pp))), (qf, .inr (2, [v0, v1]))]) (wr := [(qn, .inl (cI, 1001, .inl (nF nn))), (qh, .inl (cL, 1001, .inr (.inl fh))), (qe, .inl (cL, 1001, .inr (.inl fl)))]) (pl := va_pl u7.1 (gE cO u7.2)) (va_runV (As := [.int (nI 40)]) (rest := []) ⟨hx, hb, hml, hown, hts⟩ (c_Parser_want l dC dI cB cI cL cZ cC cO qp qc qt qf qk ql v0 v1 fk (nF pp) ((sp_go (pt2 P)).1 12) (nI 40) _ (by omega)) (cwV 1 hts (good_V k_529 k_531 s_Parser_want k_4 k_532) rfl rfl rfl (by decide +kernel) ⟨Nat.le_of_ble_eq_true rfl, Nat.le_of_ble_eq_true rfl⟩) (wc_preV (k0 := 3) (ci := 3) (r := (R_Parser, F_Parser, 4)) hK hP hD hS hA hF [3, 4, 1, 5, 2] (by decide) rfl rfl rfl) rfl rfl hl.1 rfl (lv_room (Nat.le_of_ble_eq_true rfl)) d_Parser_parseParts_69 ⟨Nat.le_trans (by omega) hroom.1, Nat.le_trans (by omega) hroom.2⟩) hP hD hS hA [3, 4, 1, 5, 2] [0, 6, 7] rfl rfl (by decide) (by decide) (fun r_39 u_37 H locs w_38 hP hD hS => ?_)
                have hP : va_P (dC, dI) cl ([(qn, .inl (cI, 1001, .inl (nF nn))), (qh, .inl (cL, 1001, .inr (.inl fh))), (qe, .inl (cL, 1001, .inr (.inl fl))), (qp, .inr (3, [.ref qc, .ref qt, .ref qf, .int (nI u_37.1)])), (qt, .inr (1, [w0, w1, .ref qk, .ref ql, .ref qn, .ref qh, .ref qe])), (qk, .inl (cI, 1001, .inl fk)), (ql, .inl (cI, 1001, .inl (nF pp))), (qf, .inr (2, [u_37.2.1, u_37.2.2]))] ++ va_pl u7.1 (gE cO u7.2)) H := hP
                have hD : va_D A ([(qn, .inl (cI, 1001, .inl (nF nn))), (qh, .inl (cL, 1001, .inr (.inl fh))), (qe, .inl (cL, 1001, .inr (.inl fl))), (qp, .inr (3, [.ref qc, .ref qt, .ref qf, .int (nI u_37.1)])), (qt, .inr (1, [w0, w1, .ref qk, .ref ql, .ref qn, .ref qh, .ref qe])), (qk, .inl (cI, 1001, .inl fk)), (ql, .inl (cI, 1001, .inl (nF pp))), (qf, .inr (2, [u_37.2.1, u_37.2.2]))] ++ va_pl u7.1 (gE cO u7.2)) := hD
                obtain ⟨r_39e, u_37e⟩ := w_38
                subst r_39e
                by_cases tk_36 : wt_ok fk ((sp_go (pt2 P)).1 12) (nI 40) = true
                · rw [wt_T tk_36] at u_37e
                  subst u_37e
                  have hb_tk_36 : ((sp_go (pt2 P)).1 12) < 1000 := wt_lt tk_36
                  have hP : va_P (dC, dI) cl ([(qn, .inl (cI, 1001, .inl (nF nn))), (qh, .inl (cL, 1001, .inr (.inl fh))), (qe, .inl (cL, 1001, .inr (.inl fl))), (qp, .inr (3, [.ref qc, .ref qt, .ref qf, .int (nI (((sp_go (pt2 P)).1 12) + 1))])), (qt, .inr (1, [w0, w1, .ref qk, .ref ql, .ref qn, .ref qh, .ref qe])), (qk, .inl (cI, 1001, .inl fk)), (ql, .inl (cI, 1001, .inl (nF pp))), (qf, .inr (2, [v0, v1]))] ++ va_pl u7.1 (gE cO u7.2)) H := hP
                  have hD : va_D A ([(qn, .inl (cI, 1001, .inl (nF nn))), (qh, .inl (cL, 1001, .inr (.inl fh))), (qe, .inl (cL, 1001, .inr (.inl fl))), (qp, .inr (3, [.ref qc, .ref qt, .ref qf, .int (nI (((sp_go (pt2 P)).1 12) + 1))])), (qt, .inr (1, [w0, w1, .ref qk, .ref ql, .ref qn, .ref qh, .ref qe])), (qk, .inl (cI, 1001, .inl fk)), (ql, .inl (cI, 1001, .inl (nF pp))), (qf, .inr (2, [v0, v1]))] ++ va_pl u7.1 (gE cO u7.2)) := hD
                  refine nv_bif_eq (tgt := 84) hx hb d_Parser_parseParts_72 (by decide) (fun c_40 => ?_) (fun c_40 => ?_)
                  · exact absurd (tk_36.symm.trans c_40) (by decide)
                  · have z3 : (pt3 tv P).1 13 = 0 := of_decide_eq_true (f1.r.symm.trans tk_36)
                    have B3 : PBd ft tv nv T fk pp nn fh fl (pt3 tv P) := BY.sgn z3
                    have rep3 : REQ t0 qc qna qdf ft tv fh fl pp nn mm u7.2 (pt3 tv P) c0 q_21 := rep.sgn
                    have e3 : (pt3 tv P).1 12 = (sp_go (pt2 P)).1 12 + 1 := by rw [ey12]; exact pt3_12 Bd.1 z3
                    rw [← e3] at hP hD
                    have hP : va_P (dC, dI) cl ([(qn, .inl (cI, 1001, .inl (nF nn))), (qh, .inl (cL, 1001, .inr (.inl fh))), (qe, .inl (cL, 1001, .inr (.inl fl))), (qp, .inr (3, [.ref qc, .ref qt, .ref qf, .int (nI ((pt3 tv P).1 12))])), (qt, .inr (1, [w0, w1, .ref qk, .ref ql, .ref qn, .ref qh, .ref qe])), (qk, .inl (cI, 1001, .inl fk)), (ql, .inl (cI, 1001, .inl (nF pp))), (qf, .inr (2, [v0, v1]))] ++ va_pl u7.1 (gE cO u7.2)) H := hP
                    have hD : va_D A ([(qn, .inl (cI, 1001, .inl (nF nn))), (qh, .inl (cL, 1001, .inr (.inl fh))), (qe, .inl (cL, 1001, .inr (.inl fl))), (qp, .inr (3, [.ref qc, .ref qt, .ref qf, .int (nI ((pt3 tv P).1 12))])), (qt, .inr (1, [w0, w1, .ref qk, .ref ql, .ref qn, .ref qh, .ref qe])), (qk, .inl (cI, 1001, .inl fk)), (ql, .inl (cI, 1001, .inl (nF pp))), (qf, .inr (2, [v0, v1]))] ++ va_pl u7.1 (gE cO u7.2)) := hD
                    have e15' : (pt3 tv P).1 15 = P.1 15 := by show (sp_sign tv (nI 40) (sp_go (pt2 P))).1 15 = _; rw [zk_sign (by decide) (by decide) (by decide)]; exact ey15
                    have hcq3 : (pt3 tv P).2.2.1 23 ((pt3 tv P).1 15 - 1) < (pt3 tv P).1 24 := by
                      have q9 : (pt3 tv P).1 24 = (sp_go (pt2 P)).1 24 := zk_sign (by decide) (by decide) (by decide)
                      have q8 : (pt3 tv P).2 = (sp_go (pt2 P)).2 := ar_sign _ _ _
                      rw [q9, q8, e15', ← ey15]; exact ycq
                    have hroom2 := ch_room2 (ft := ft) (f := 1001 - n) Bd k1 hr12 sgf h0 z3
                    rw [← hX] at hroom2
                    refine lv_aload_n hx hb d_Parser_parseParts_75 rfl (lv_at hl 1 rfl) ?_
                    refine lv_aload_n hx hb d_Parser_parseParts_76 rfl (lv_at hl 2 rfl) ?_
                    refine lv_aload_n hx hb d_Parser_parseParts_77 rfl (lv_at hl 0 rfl) ?_
                    refine wd_i (cx := [(qp, .inr (3, [.ref qc, .ref qt, .ref qf, .int (nI ((pt3 tv P).1 12))])), (qt, .inr (1, [w0, w1, .ref qk, .ref ql, .ref qn, .ref qh, .ref qe])), (qk, .inl (cI, 1001, .inl fk)), (ql, .inl (cI, 1001, .inl (nF pp))), (qn, .inl (cI, 1001, .inl (nF nn))), (qh, .inl (cL, 1001, .inr (.inl fh))), (qe, .inl (cL, 1001, .inr (.inl fl))), (qf, .inr (2, [v0, v1]))]) (wr := []) (pl := va_pl u7.1 (gE cO u7.2)) (va_runV (As := [.ref c0, .ref q_21]) (rest := []) ⟨hx, hb, hml, hown, hts⟩ (p_Parser_parseLinks l dC dI cB cI cL cZ cC cO qp qc qt qf qk ql qn qh qe fk pp nn fh fl (G := u7.2) qna qdf T ft tv nv mm c0 q_21 (sp_part ft tv nv P) (pt3 tv P) v0 v1 t0 _ (part_yes Bd.1 k1 hr12) hL hk3 hnn hk10 B3 rep3 (by rw [e15']; exact hmm) hcq3) (cwV 2 hts (good_V k_599 k_601 s_Parser_parseLinks k_4 k_602) rfl rfl rfl (by decide +kernel) ⟨Nat.le_of_ble_eq_true rfl, Nat.le_of_ble_eq_true rfl⟩) (wd_preV (ci := 3) (r := (R_Parser, F_Parser, 4)) hK hP hD hS hA hF hE [3, 4, 5, 6, 0, 1, 2, 7] (by decide) rfl rfl ⟨3, rfl⟩) rfl rfl hl.1 rfl (lv_room (Nat.le_of_ble_eq_true rfl)) d_Parser_parseParts_78 ⟨Nat.le_trans (by omega) hroom2.1, Nat.le_trans (by omega) hroom2.2⟩) hP hD hS hA [3, 4, 5, 6, 0, 1, 2, 7] [] rfl rfl (by decide) (by decide) (fun r_42 u H locs w_41 hP hD hS => ?_)
                    have hP : va_P (dC, dI) cl ([(qp, .inr (3, [.ref qc, .ref qt, .ref qf, .int (nI u.1.1)])), (qt, .inr (1, [w0, w1, .ref qk, .ref ql, .ref qn, .ref qh, .ref qe])), (qk, .inl (cI, 1001, .inl fk)), (ql, .inl (cI, 1001, .inl (nF pp))), (qn, .inl (cI, 1001, .inl (nF nn))), (qh, .inl (cL, 1001, .inr (.inl fh))), (qe, .inl (cL, 1001, .inr (.inl fl))), (qf, .inr (2, [u.1.2.1, u.1.2.2]))] ++ va_pl u.2.1 (gE cO u.2.2)) H := hP
                    have hD : va_D A ([(qp, .inr (3, [.ref qc, .ref qt, .ref qf, .int (nI u.1.1)])), (qt, .inr (1, [w0, w1, .ref qk, .ref ql, .ref qn, .ref qh, .ref qe])), (qk, .inl (cI, 1001, .inl fk)), (ql, .inl (cI, 1001, .inl (nF pp))), (qn, .inl (cI, 1001, .inl (nF nn))), (qh, .inl (cL, 1001, .inr (.inl fh))), (qe, .inl (cL, 1001, .inr (.inl fl))), (qf, .inr (2, [u.1.2.1, u.1.2.2]))] ++ va_pl u.2.1 (gE cO u.2.2)) := hD
                    obtain ⟨r_42e, gl, hcase⟩ := w_41
                    subst r_42e
                    have lp3 : (pt3 tv P).1 12 ≤ (sp_part ft tv nv P).1 12 := by
                      rw [part_yes (ft := ft) (tv := tv) (nv := nv) Bd.1 k1 hr12]
                      exact Nat.le_trans (z12_pt 1002 _) (Nat.le_trans (z12_sign tv (nI 41) _) (z12_sign tv (nI 59) _))
                    rcases hcase with ⟨z, ue, rep4, B4, x15⟩ | ⟨z, ue, rb⟩
                    · have zd : decide ((sp_part ft tv nv P).1 13 = 0) = true := by simpa using z
                      rw [ue] at hP hD
                      obtain ⟨kt1, kt2⟩ := kcc_t (P := pt3 tv P) z
                      obtain ⟨p24, p23⟩ := part_24 Bd k1 hr12
                      have hP : va_P (dC, dI) cl ([(qp, .inr (3, [.ref qc, .ref qt, .ref qf, .int (nI ((sp_part ft tv nv P).1 12))])), (qt, .inr (1, [w0, w1, .ref qk, .ref ql, .ref qn, .ref qh, .ref qe])), (qk, .inl (cI, 1001, .inl fk)), (ql, .inl (cI, 1001, .inl (nF pp))), (qn, .inl (cI, 1001, .inl (nF nn))), (qh, .inl (cL, 1001, .inr (.inl fh))), (qe, .inl (cL, 1001, .inr (.inl fl))), (qf, .inr (2, [v0, v1]))] ++ va_pl u.2.1 (gE cO u.2.2)) H := hP
                      have hD : va_D A ([(qp, .inr (3, [.ref qc, .ref qt, .ref qf, .int (nI ((sp_part ft tv nv P).1 12))])), (qt, .inr (1, [w0, w1, .ref qk, .ref ql, .ref qn, .ref qh, .ref qe])), (qk, .inl (cI, 1001, .inl fk)), (ql, .inl (cI, 1001, .inl (nF pp))), (qn, .inl (cI, 1001, .inl (nF nn))), (qh, .inl (cL, 1001, .inr (.inl fh))), (qe, .inl (cL, 1001, .inr (.inl fl))), (qf, .inr (2, [v0, v1]))] ++ va_pl u.2.1 (gE cO u.2.2)) := hD
                      refine nv_bif_ne (tgt := 86) hx hb d_Parser_parseParts_81 (by decide) (fun c_43 => ?_) (fun c_43 => ?_)
                      · refine lv_iinc (v := nI (n + 1)) (lv' := [(2, .int (nI (n + 1))), (3, .ref q_21), (0, .ref qp), (1, .ref c0)]) hx hb d_Parser_parseParts_86 hl (k := 3) rfl (nI_1 _) (by decide) rfl (fun ls hl => ?_)
                        refine lv_goto (tgt := 2) hx hb d_Parser_parseParts_89 (by decide) ?_
                        refine W.widen (k := 4 * ((sp_part ft tv nv P).1 12 - P0.1 12)) (n := 700 * ((sp_part ft tv nv P).1 12 - P0.1 12)) (by omega) (by omega) ?_
                        exact ih (n + 1) (sp_part ft tv nv P) _ _ _ _ ls (by omega) (by rw [p24, p23, x15, e15']; omega) (by omega) gl B4 rep4 (by rw [x15, e15']; exact hmm) (by rw [x15, e15']; exact e15) (by rw [hX, ch_u Bd.1, if_pos sgf, show 1002 - (n + 1) = 1001 - n by omega]) hP hD hS (lv_sub hl [2, 3, 0] rfl)
                      · exact absurd (zd.symm.trans c_43) (by decide)
                    · have zd : decide ((sp_part ft tv nv P).1 13 = 0) = false := by simpa using z
                      have hbad := ch_bad (f := 1001 - n) Bd.1 sgf z
                      rw [← hX] at hbad
                      refine nv_bif_ne (tgt := 86) hx hb d_Parser_parseParts_81 (by decide) (fun c_44 => ?_) (fun c_44 => ?_)
                      · exact absurd (zd.symm.trans c_44) (by decide)
                      · refine lv_iconst (v := nI 0) hx hb d_Parser_parseParts_84 (by decide) ?_
                        have hroom := hroom2
                        refine W.widen (k := kcc X P0) (n := kss X P0) (Nat.le_trans (by omega) hroom.1) (Nat.le_trans (by omega) hroom.2) ?_
                        exact kx (u.1.1) (u.1.2.1) (u.1.2.2) u.2.1 u.2.2 _ _ ls hbad.1 (ue.trans hbad.2.symm) gl rb hP hD hS (lv_sub hl [1] rfl)
                · have tk_36 : wt_ok fk ((sp_go (pt2 P)).1 12) (nI 40) = false := by simpa using tk_36
                  rw [wt_F tk_36] at u_37e
                  subst u_37e
                  have hP : va_P (dC, dI) cl ([(qn, .inl (cI, 1001, .inl (nF nn))), (qh, .inl (cL, 1001, .inr (.inl fh))), (qe, .inl (cL, 1001, .inr (.inl fl))), (qp, .inr (3, [.ref qc, .ref qt, .ref qf, .int (nI ((sp_go (pt2 P)).1 12))])), (qt, .inr (1, [w0, w1, .ref qk, .ref ql, .ref qn, .ref qh, .ref qe])), (qk, .inl (cI, 1001, .inl fk)), (ql, .inl (cI, 1001, .inl (nF pp))), (qf, .inr (2, [.int (if fk ((sp_go (pt2 P)).1 12) = nI 2 then nI 2 else nI 1), .int (nI (pp ((sp_go (pt2 P)).1 12)))]))] ++ va_pl u7.1 (gE cO u7.2)) H := hP
                  have hD : va_D A ([(qn, .inl (cI, 1001, .inl (nF nn))), (qh, .inl (cL, 1001, .inr (.inl fh))), (qe, .inl (cL, 1001, .inr (.inl fl))), (qp, .inr (3, [.ref qc, .ref qt, .ref qf, .int (nI ((sp_go (pt2 P)).1 12))])), (qt, .inr (1, [w0, w1, .ref qk, .ref ql, .ref qn, .ref qh, .ref qe])), (qk, .inl (cI, 1001, .inl fk)), (ql, .inl (cI, 1001, .inl (nF pp))), (qf, .inr (2, [.int (if fk ((sp_go (pt2 P)).1 12) = nI 2 then nI 2 else nI 1), .int (nI (pp ((sp_go (pt2 P)).1 12)))]))] ++ va_pl u7.1 (gE cO u7.2)) := hD
                  refine nv_bif_eq (tgt := 84) hx hb d_Parser_parseParts_72 (by decide) (fun c_45 => ?_) (fun c_45 => ?_)
                  · refine lv_iconst (v := nI 0) hx hb d_Parser_parseParts_84 (by decide) ?_
                    have z3 : ¬ (pt3 tv P).1 13 = 0 := of_decide_eq_false (f1.r.symm.trans tk_36)
                    have ue := (f1.f z3).2
                    rw [wt_F tk_36] at ue
                    obtain ⟨zp, fp⟩ := part_b2 (ft := ft) (nv := nv) Bd.1 k1 hr12 z3
                    have hbad := ch_bad (f := 1001 - n) Bd.1 sgf zp
                    rw [← hX, fp] at hbad
                    refine W.widen (k := kcc X P0) (n := kss X P0) (Nat.le_trans (by omega) hroom.1) (Nat.le_trans (by omega) hroom.2) ?_
                    exact kx ((sp_go (pt2 P)).1 12) (.int (if fk ((sp_go (pt2 P)).1 12) = nI 2 then nI 2 else nI 1)) (.int (nI (pp ((sp_go (pt2 P)).1 12)))) u7.1 u7.2 _ _ ls hbad.1 (ue.trans hbad.2.symm) hL (rep.rep.rb (by rw [ey15]; omega)) (hP.part [3, 4, 5, 6, 0, 1, 2, 7] rfl) (hD.part [3, 4, 5, 6, 0, 1, 2, 7] (by decide) rfl) hS (lv_sub hl [1] rfl)
                  · exact absurd (tk_36.symm.trans c_45) (by decide)
              · exact absurd (tk_16.symm.trans c_20) (by decide)
            · have tk_16 : wn_ok fk (P.1 12) true = false := by simpa using tk_16
              rw [wn_F tk_16] at u_17e
              subst u_17e
              have hP : va_P (dC, dI) cl ([(qn, .inl (cI, 1001, .inl (nF nn))), (qh, .inl (cL, 1001, .inr (.inl fh))), (qe, .inl (cL, 1001, .inr (.inl fl))), (qp, .inr (3, [.ref qc, .ref qt, .ref qf, .int (nI (P.1 12))])), (qt, .inr (1, [w0, w1, .ref qk, .ref ql, .ref qn, .ref qh, .ref qe])), (qk, .inl (cI, 1001, .inl fk)), (ql, .inl (cI, 1001, .inl (nF pp))), (qf, .inr (2, [.int (if fk (P.1 12) = nI 3 ∨ fk (P.1 12) = nI 2 then nI 2 else nI 1), .int (nI (pp (P.1 12)))]))] ++ va_pl L (gE cO G)) H := hP
              have hD : va_D A ([(qn, .inl (cI, 1001, .inl (nF nn))), (qh, .inl (cL, 1001, .inr (.inl fh))), (qe, .inl (cL, 1001, .inr (.inl fl))), (qp, .inr (3, [.ref qc, .ref qt, .ref qf, .int (nI (P.1 12))])), (qt, .inr (1, [w0, w1, .ref qk, .ref ql, .ref qn, .ref qh, .ref qe])), (qk, .inl (cI, 1001, .inl fk)), (ql, .inl (cI, 1001, .inl (nF pp))), (qf, .inr (2, [.int (if fk (P.1 12) = nI 3 ∨ fk (P.1 12) = nI 2 then nI 2 else nI 1), .int (nI (pp (P.1 12)))]))] ++ va_pl L (gE cO G)) := hD
              refine nv_bif_ne (tgt := 45) hx hb d_Parser_parseParts_40 (by decide) (fun c_46 => ?_) (fun c_46 => ?_)
              · exact absurd (tk_16.symm.trans c_46) (by decide)
              · refine lv_iconst (v := nI 0) hx hb d_Parser_parseParts_43 (by decide) ?_
                have hy : decide (P.1 24 - P.2.2.1 23 (P.1 15 - 1) < 12) = true := by simp; omega
                have kn : ¬ (P.2.2.1 7 (P.1 12) = 1 ∧ decide (P.1 24 - P.2.2.1 23 (P.1 15 - 1) < 12) = true) := fun q9 => by
                  have q8 := Bd.2.1.wn Bd.le (decide (P.1 24 - P.2.2.1 23 (P.1 15 - 1) < 12))
                  rw [q9.1, q9.2] at q8
                  rw [hy] at q9
                  rw [← q9.2, tk_16] at q8
                  cases q8
                obtain ⟨w0, f0⟩ := fz_name (v0 := v0) (v1 := v1) Bd.2.1 Bd.1 Bd.le _ kn (P.1 12)
                rw [hy, wn_F tk_16, ← part_no (ft := ft) (tv := tv) (nv := nv) Bd.1 kn] at f0
                have zp : ¬ (sp_part ft tv nv P).1 13 = 0 := fun q9 => by have q8 := f0.t q9; cases q8.1
                have ue := (f0.f zp).2
                have hbad := ch_bad (f := 1001 - n) Bd.1 sgf zp
                rw [← hX] at hbad
                refine W.widen (k := kcc X P0) (n := kss X P0) (Nat.le_trans (by omega) hroom.1) (Nat.le_trans (by omega) hroom.2) ?_
                exact kw (P.1 12) (.int (if fk (P.1 12) = nI 3 ∨ fk (P.1 12) = nI 2 then nI 2 else nI 1)) (.int (nI (pp (P.1 12)))) L G _ _ ls hbad.1 (ue.trans hbad.2.symm) hL (hR.rb (by omega)) (hP.part [3, 4, 5, 6, 0, 1, 2, 7] rfl) (hD.part [3, 4, 5, 6, 0, 1, 2, 7] (by decide) rfl) hS (lv_sub hl [0] rfl)
        · exact absurd (tk_2.symm.trans c_7) (by decide)
set_option maxHeartbeats 4000000 in
set_option maxRecDepth 100000 in
/-- parseParts(chip) -/
theorem p_Parser_parseParts (l : Launch) (dC : Nat → ClassId) (dI : Nat → Nat → Nat) (cB cI cL cZ cC cO : ClassId) (qp qc qt qf qk ql qn qh qe : Nat) {w0 w1 : Value} (fk : Nat → Int32) (pp nn : Nat → Nat) (fh fl : Nat → Int64) {L : List Nat} {G : PG} (qna qdf T : Nat) (ft tv : Nat → Int32) (nv : Nat → Nat) (mm c0 : Nat) (X P : PS) (v0 v1 : Value) (t0 sz : Nat) (hX : X = sp_sign tv (nI 125) (ch_loop ft tv nv 1002 P)) (hL : gL L G) (hk3 : ¬ fk 1000 = nI 3) (hnn : ∀ t, nn t ≤ 99) (hk10 : ¬ (fk 1000 = nI 10 ∨ fk 1000 = nI 11)) (Bd : PBd ft tv nv T fk pp nn fh fl P) (hR : REP t0 qc qna qdf ft tv fh fl pp nn mm G P c0) (hmm : mm = P.1 15) : Met l y_Parser_parseParts w_Parser_parseParts ({ frames := 13, cells := (kcc X P), slots := (kss X P), locals := 830 }) (va_Pc [.ref qp, .ref c0] (wB2 (dC, dI) cl [(cB, .byte), (cI, .int), (cL, .long), (cZ, .boolean), (cC, .char), (cO, .object "java/lang/Object")] sz t0 ([(qp, .inr (3, [.ref qc, .ref qt, .ref qf, .int (nI (P.1 12))])), (qt, .inr (1, [w0, w1, .ref qk, .ref ql, .ref qn, .ref qh, .ref qe])), (qk, .inl (cI, 1001, .inl fk)), (ql, .inl (cI, 1001, .inl (nF pp))), (qn, .inl (cI, 1001, .inl (nF nn))), (qh, .inl (cL, 1001, .inr (.inl fh))), (qe, .inl (cL, 1001, .inr (.inl fl))), (qf, .inr (2, [v0, v1]))] ++ va_pl L (gE cO G)))) (va_Qi (fun (r : Int32) (u : (Nat × Value × Value) × List Nat × PG) => r = bI (decide (X.1 13 = 0)) ∧ gL u.2.1 u.2.2 ∧ ((X.1 13 = 0 ∧ u.1 = (X.1 12, v0, v1) ∧ REP t0 qc qna qdf ft tv fh fl pp nn mm u.2.2 X c0 ∧ PBd ft tv nv T fk pp nn fh fl X ∧ X.1 15 = P.1 15) ∨ (¬ X.1 13 = 0 ∧ u.1.2 = ftv X ∧ RB t0 qc qna qdf u.2.2))) (fun u t => wA (dC, dI) cl [(cB, .byte), (cI, .int), (cL, .long), (cZ, .boolean), (cC, .char), (cO, .object "java/lang/Object")] (va_A ([(qp, .inr (3, [.ref qc, .ref qt, .ref qf, .int (nI (P.1 12))])), (qt, .inr (1, [w0, w1, .ref qk, .ref ql, .ref qn, .ref qh, .ref qe])), (qk, .inl (cI, 1001, .inl fk)), (ql, .inl (cI, 1001, .inl (nF pp))), (qn, .inl (cI, 1001, .inl (nF nn))), (qh, .inl (cL, 1001, .inr (.inl fh))), (qe, .inl (cL, 1001, .inr (.inl fl))), (qf, .inr (2, [v0, v1]))] ++ va_pl L (gE cO G)) sz) ([(qp, .inr (3, [.ref qc, .ref qt, .ref qf, .int (nI u.1.1)])), (qt, .inr (1, [w0, w1, .ref qk, .ref ql, .ref qn, .ref qh, .ref qe])), (qk, .inl (cI, 1001, .inl fk)), (ql, .inl (cI, 1001, .inl (nF pp))), (qn, .inl (cI, 1001, .inl (nF nn))), (qh, .inl (cL, 1001, .inr (.inl fh))), (qe, .inl (cL, 1001, .inr (.inl fl))), (qf, .inr (2, [u.1.2.1, u.1.2.2]))] ++ va_pl u.2.1 (gE cO u.2.2)) t) (va_A ([(qp, .inr (3, [.ref qc, .ref qt, .ref qf, .int (nI (P.1 12))])), (qt, .inr (1, [w0, w1, .ref qk, .ref ql, .ref qn, .ref qh, .ref qe])), (qk, .inl (cI, 1001, .inl fk)), (ql, .inl (cI, 1001, .inl (nF pp))), (qn, .inl (cI, 1001, .inl (nF nn))), (qh, .inl (cL, 1001, .inr (.inl fh))), (qe, .inl (cL, 1001, .inr (.inl fl))), (qf, .inr (2, [v0, v1]))] ++ va_pl L (gE cO G)) sz)) (kcc X P) (kss X P) (va_A ([(qp, .inr (3, [.ref qc, .ref qt, .ref qf, .int (nI (P.1 12))])), (qt, .inr (1, [w0, w1, .ref qk, .ref ql, .ref qn, .ref qh, .ref qe])), (qk, .inl (cI, 1001, .inl fk)), (ql, .inl (cI, 1001, .inl (nF pp))), (qn, .inl (cI, 1001, .inl (nF nn))), (qh, .inl (cL, 1001, .inr (.inl fh))), (qe, .inl (cL, 1001, .inr (.inl fl))), (qf, .inr (2, [v0, v1]))] ++ va_pl L (gE cO G)) sz) := by
  refine Met.ofW (cc := b_Parser_parseParts) (maxL := 4) (ret := (some ClassFile.FieldType.boolean)) (by decide) rfl ?_
  intro p e s m args below meth c s₁ B hml hv
  obtain ⟨rfl, ⟨hsz, hP, hK, hD0, hF⟩, hE⟩ := hv
  have hx := B.exec
  have hb := B.bytes
  have hr := B.returns
  have hts := atoms_spec (ws := w_Parser_parseParts) B.pre
  have hts : ∀ w ∈ tb, w.before _ s = true := fun w h => hts w (List.mem_cons_of_mem _ h)
  have hown : s.vm.findClass R_Parser = some m.cls := findClass_of_methodNamed B.named
  have hlocks := B.notSynchronized
  subst hsz
  have hD := hD0.self (sz := s.heap.size)
  generalize hAe : va_A ([(qp, .inr (3, [.ref qc, .ref qt, .ref qf, .int (nI (P.1 12))])), (qt, .inr (1, [w0, w1, .ref qk, .ref ql, .ref qn, .ref qh, .ref qe])), (qk, .inl (cI, 1001, .inl fk)), (ql, .inl (cI, 1001, .inl (nF pp))), (qn, .inl (cI, 1001, .inl (nF nn))), (qh, .inl (cL, 1001, .inr (.inl fh))), (qe, .inl (cL, 1001, .inr (.inl fl))), (qf, .inr (2, [v0, v1]))] ++ va_pl L (gE cO G)) s.heap.size = A at hD hF hE ⊢
  have hA : ∀ q : Nat, s.heap.size ≤ q → A q := fun q h => by rw [← hAe]; exact Or.inr h
  have hS : va_S A s.heap s.heap [] := va_S.rf
  have hP : va_P (dC, dI) cl ([(qp, .inr (3, [.ref qc, .ref qt, .ref qf, .int (nI (P.1 12))])), (qt, .inr (1, [w0, w1, .ref qk, .ref ql, .ref qn, .ref qh, .ref qe])), (qk, .inl (cI, 1001, .inl fk)), (ql, .inl (cI, 1001, .inl (nF pp))), (qn, .inl (cI, 1001, .inl (nF nn))), (qh, .inl (cL, 1001, .inr (.inl fh))), (qe, .inl (cL, 1001, .inr (.inl fl))), (qf, .inr (2, [v0, v1]))] ++ va_pl L (gE cO G)) s.heap := hP
  have hl := lv_entry ([.ref qp, .ref c0]) (n := 4) (Nat.le_of_ble_eq_true rfl)
  rw [lg_entry_eq]
  generalize (lg_sl ([.ref qp, .ref c0]) ++ List.replicate (4 - (lg_sl ([.ref qp, .ref c0])).length) Slot.unset).toArray = ls at hl ⊢
  have hl : lv_has ls 4 [(0, .ref qp), (1, .ref c0)] := hl
  refine lv_iconst (v := nI 0) hx hb d_Parser_parseParts_0 (by decide) ?_
  refine lv_istore_n (lv' := [(2, .int (nI 0)), (0, .ref qp), (1, .ref c0)]) hx hb d_Parser_parseParts_1 rfl hl (by decide) rfl (fun ls hl => ?_)
  refine W.widen (k := 4 * (P.1 12 - P.1 12)) (n := 700 * (P.1 12 - P.1 12)) (Nat.zero_le _) (Nat.zero_le _) ?_
  refine lp_Parser_parseParts (mm := mm) (c0 := c0) (v0 := v0) (v1 := v1) (X := X) (P0 := P) (T := T) (ft := ft) (tv := tv) (nv := nv) (qna := qna) (qdf := qdf) hk3 hnn hk10 hx hb hml hown hts hA hF hE hK (fun a9 w8 w9 L G H locs ls hx0 hw hL hg1 hg2 hg3 hP hD hS hl => ?_) (fun a9 w8 w9 L G H locs ls hx0 hw hL hB hP hD hS hl => ?_) (fun a9 w8 w9 L G H locs ls hx0 hw hL hB hP hD hS hl => ?_) 13 0 P _ _ _ _ ls (by omega) (Nat.zero_le _) (Nat.le_refl _) hL Bd hR hmm rfl hX hP hD hS (lv_sub hl [1, 2, 0] rfl)
  · exact wr_z (x := true) hx hb hr hlocks ((a9, w8, w9), L, G) ⟨by rw [show decide (X.1 13 = 0) = true from by simpa using hx0], hL, Or.inl ⟨hx0, hw, hg1, hg2, hg3⟩⟩ hK hP hD hS d_Parser_parseParts_18
  · exact wr_z (x := false) hx hb hr hlocks ((a9, w8, w9), L, G) ⟨by rw [show decide (X.1 13 = 0) = false from by simpa using hx0], hL, Or.inr ⟨hx0, hw, hB⟩⟩ hK hP hD hS d_Parser_parseParts_44
  · exact wr_z (x := false) hx hb hr hlocks ((a9, w8, w9), L, G) ⟨by rw [show decide (X.1 13 = 0) = false from by simpa using hx0], hL, Or.inr ⟨hx0, hw, hB⟩⟩ hK hP hD hS d_Parser_parseParts_85
