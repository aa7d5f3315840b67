theorem pl_room {tv : Nat → Int32} {nv : Nat → Nat} {ob : Bool} {f : Nat} {P P0 : PS} (hz : P.1 13 = 0) (h0 : P0.1 12 ≤ P.1 12) : 4 * (P.1 12 - P0.1 12) + 3 ≤ kcc (pl_loop tv nv ob (f + 1) P) P0 ∧ 700 * (P.1 12 - P0.1 12) + 610 ≤ kss (pl_loop tv nv ob (f + 1) P) P0 := by
  rw [pl_loop_p hz]
  by_cases z : (pl_p tv nv ob (decide (P.1 18 - P.2.2.1 17 (P.1 15 - 1) < 8)) P).1 13 = 0
  · have k1 : P.2.2.1 7 (P.1 12) = 1 := Classical.byContradiction (fun q => by unfold pl_p at z; rw [if_neg q, (syn_z hz).1] at z; split at z <;> cases z)
    have k2 : decide (P.1 18 - P.2.2.1 17 (P.1 15 - 1) < 8) = true := Classical.byContradiction (fun q => by unfold pl_p at z; rw [if_pos k1, if_neg q] at z; unfold sp_wrong at z; rw [if_neg (by omega)] at z; cases z)
    have ez : pl_p tv nv ob (decide (P.1 18 - P.2.2.1 17 (P.1 15 - 1) < 8)) P = pl_one tv nv ob P := by unfold pl_p; rw [if_pos k1, if_pos k2]
    rw [if_pos z]
    rw [ez] at z ⊢
    have x := pl_pis hz k1 z
    have lt := x.lt
    generalize pl_one tv nv ob P = Z at *
    have ge : Z.1 12 ≤ (if sg tv (nI 44) Z = true then pl_loop tv nv ob f (sp_go Z) else sp_sign tv (nI 59) Z).1 12 := by
      split
      · exact Nat.le_trans (z12_go Z) (z12_pl f _)
      · exact z12_sign _ _ _
    generalize (if sg tv (nI 44) Z = true then pl_loop tv nv ob f (sp_go Z) else sp_sign tv (nI 59) Z) = X at *
    have g := kcc_g X P0
    omega
  · rw [if_neg z]
    have g := kcc_f (P := P0) z
    have l := z12_p (tv := tv) (nv := nv) (ob := ob) (y := decide (P.1 18 - P.2.2.1 17 (P.1 15 - 1) < 8)) (P := P)
    rw [g.1, g.2]
    omega
theorem d_Parser_parsePins_0 : decode b_Parser_parsePins 0 = .ok (.aload_n 0, 1) := by decide +kernel
theorem d_Parser_parsePins_1 : decode b_Parser_parsePins 1 = .ok (.iload_n 2, 1) := by decide +kernel
theorem d_Parser_parsePins_2 : decode b_Parser_parsePins 2 = .ok (.invokevirtual 43, 3) := by decide +kernel
theorem d_Parser_parsePins_5 : decode b_Parser_parsePins 5 = .ok (.ifCond .ne 5, 3) := by decide +kernel
theorem d_Parser_parsePins_8 : decode b_Parser_parsePins 8 = .ok (.iconst 0, 1) := by decide +kernel
theorem d_Parser_parsePins_9 : decode b_Parser_parsePins 9 = .ok (.ireturn, 1) := by decide +kernel
theorem d_Parser_parsePins_10 : decode b_Parser_parsePins 10 = .ok (.iconst 0, 1) := by decide +kernel
theorem d_Parser_parsePins_11 : decode b_Parser_parsePins 11 = .ok (.istore 4, 2) := by decide +kernel
theorem d_Parser_parsePins_13 : decode b_Parser_parsePins 13 = .ok (.iload 4, 2) := by decide +kernel
theorem d_Parser_parsePins_15 : decode b_Parser_parsePins 15 = .ok (.bipush 8, 2) := by decide +kernel
theorem d_Parser_parsePins_17 : decode b_Parser_parsePins 17 = .ok (.if_icmp .gt 36, 3) := by decide +kernel
theorem d_Parser_parsePins_20 : decode b_Parser_parsePins 20 = .ok (.aload_n 0, 1) := by decide +kernel
theorem d_Parser_parsePins_21 : decode b_Parser_parsePins 21 = .ok (.aload_n 1, 1) := by decide +kernel
theorem d_Parser_parsePins_22 : decode b_Parser_parsePins 22 = .ok (.iload_n 3, 1) := by decide +kernel
theorem d_Parser_parsePins_23 : decode b_Parser_parsePins 23 = .ok (.invokevirtual 75, 3) := by decide +kernel
theorem d_Parser_parsePins_26 : decode b_Parser_parsePins 26 = .ok (.ifCond .ne 5, 3) := by decide +kernel
theorem d_Parser_parsePins_29 : decode b_Parser_parsePins 29 = .ok (.iconst 0, 1) := by decide +kernel
theorem d_Parser_parsePins_30 : decode b_Parser_parsePins 30 = .ok (.ireturn, 1) := by decide +kernel
theorem d_Parser_parsePins_31 : decode b_Parser_parsePins 31 = .ok (.aload_n 0, 1) := by decide +kernel
theorem d_Parser_parsePins_32 : decode b_Parser_parsePins 32 = .ok (.bipush 44, 2) := by decide +kernel
theorem d_Parser_parsePins_34 : decode b_Parser_parsePins 34 = .ok (.invokevirtual 79, 3) := by decide +kernel
theorem d_Parser_parsePins_37 : decode b_Parser_parsePins 37 = .ok (.ifCond .ne 10, 3) := by decide +kernel
theorem d_Parser_parsePins_40 : decode b_Parser_parsePins 40 = .ok (.aload_n 0, 1) := by decide +kernel
theorem d_Parser_parsePins_41 : decode b_Parser_parsePins 41 = .ok (.bipush 59, 2) := by decide +kernel
theorem d_Parser_parsePins_43 : decode b_Parser_parsePins 43 = .ok (.invokevirtual 43, 3) := by decide +kernel
theorem d_Parser_parsePins_46 : decode b_Parser_parsePins 46 = .ok (.ireturn, 1) := by decide +kernel
theorem d_Parser_parsePins_47 : decode b_Parser_parsePins 47 = .ok (.iinc 4 1, 3) := by decide +kernel
theorem d_Parser_parsePins_50 : decode b_Parser_parsePins 50 = .ok (.goto (-37), 3) := by decide +kernel
theorem d_Parser_parsePins_53 : decode b_Parser_parsePins 53 = .ok (.iconst 0, 1) := by decide +kernel
theorem d_Parser_parsePins_54 : decode b_Parser_parsePins 54 = .ok (.ireturn, 1) := by decide +kernel
set_option maxHeartbeats 4000000 in
set_option maxRecDepth 100000 in
theorem lp_Parser_parsePins {p : Program} {l : Launch} {e : Env} {s : State} {m : MethodId} {args : Array Value} {below : List Frame} {meth : Method} {c : Code} {Q : State → Prop} {A : Nat → Prop} {dC : Nat → ClassId} {dI : Nat → Nat → Nat} {cB cI cL cZ cC cO : ClassId} {t0 : Nat} {qp qc qt qf qk ql qn qh qe : Nat} {w0 w1 : Value} {fk : Nat → Int32} {pp nn : Nat → Nat} {fh fl : Nat → Int64} {qna qdf T : Nat} {ft tv : Nat → Int32} {nv : Nat → Nat} {mm c0 kd : Nat} {ob : Bool} {v0 v1 : Value} {X P0 : PS} (hk3 : ¬ fk 1000 = nI 3) (hnn : ∀ t, nn t ≤ 99) (hkd : kd = if ob = true then 1 else 0) (hx : p.tables.exec = Jvm.exec) (hb : c.code = b_Parser_parsePins) (hml : c.maxLocals = 5) (hown : s.vm.findClass R_Parser = some m.cls) (hts : ∀ w ∈ tb, w.before args s = true) (hA : ∀ q, s.heap.size ≤ q → A q) (hF : stF A s) (hE : stE A t0 s) (hK : va_K (dC, dI) cl [(cB, .byte), (cI, .int), (cL, .long), (cZ, .boolean), (cC, .char), (cO, .object "java/lang/Object")] s)
    (kx : ∀ (a9 : Nat) (w8 w9 : Value) (L : List Nat) (G : PG) (H : Heap) (locs : List Loc) (ls : Array Slot), ¬ X.1 13 = 0 → (w8, w9) = ftv X → gL L G → RB t0 qc qna qdf G → va_P (dC, dI) cl ([(qp, .inr (3, [.ref qc, .ref qt, .ref qf, .int (nI a9)])), (qt, .inr (1, [w0, w1, .ref qk, .ref ql, .ref qn, .ref qh, .ref qe])), (qk, .inl (cI, 1001, .inl fk)), (ql, .inl (cI, 1001, .inl (nF pp))), (qn, .inl (cI, 1001, .inl (nF nn))), (qh, .inl (cL, 1001, .inr (.inl fh))), (qe, .inl (cL, 1001, .inr (.inl fl))), (qf, .inr (2, [w8, w9]))] ++ va_pl L (gE cO G)) H → va_D A ([(qp, .inr (3, [.ref qc, .ref qt, .ref qf, .int (nI a9)])), (qt, .inr (1, [w0, w1, .ref qk, .ref ql, .ref qn, .ref qh, .ref qe])), (qk, .inl (cI, 1001, .inl fk)), (ql, .inl (cI, 1001, .inl (nF pp))), (qn, .inl (cI, 1001, .inl (nF nn))), (qh, .inl (cL, 1001, .inr (.inl fh))), (qe, .inl (cL, 1001, .inr (.inl fl))), (qf, .inr (2, [w8, w9]))] ++ va_pl L (gE cO G)) → va_S A s.heap H locs → lv_has ls 5 [(0, .ref qp)] → W p l e (headSpec w_Parser_parsePins { frames := 11, cells := (kcc X P0), slots := (kss X P0), locals := 700 }).room s m args below meth c H locs (kcc X P0) (kss X P0) Q (F0 m 30 ls [.int (nI 0)])) (ky : ∀ (y : Bool) (a9 : Nat) (w8 w9 : Value) (L : List Nat) (G : PG) (H : Heap) (locs : List Loc) (ls : Array Slot), y = decide (X.1 13 = 0) → gL L G → ((X.1 13 = 0 ∧ (a9, w8, w9) = (X.1 12, v0, v1) ∧ REP t0 qc qna qdf ft tv fh fl pp nn mm G X c0 ∧ PBd ft tv nv T fk pp nn fh fl X ∧ (X.1 24 = X.2.2.1 23 (X.1 15 - 1)) ∧ (ob = false → ∀ p, X.2.2.1 17 (X.1 15 - 1) ≤ p → p < X.1 18 → X.2.2.2.2 19 p = false) ∧ X.1 15 = P0.1 15) ∨ (¬ X.1 13 = 0 ∧ (w8, w9) = ftv X ∧ RB t0 qc qna qdf G)) → va_P (dC, dI) cl ([(qp, .inr (3, [.ref qc, .ref qt, .ref qf, .int (nI a9)])), (qt, .inr (1, [w0, w1, .ref qk, .ref ql, .ref qn, .ref qh, .ref qe])), (qk, .inl (cI, 1001, .inl fk)), (ql, .inl (cI, 1001, .inl (nF pp))), (qn, .inl (cI, 1001, .inl (nF nn))), (qh, .inl (cL, 1001, .inr (.inl fh))), (qe, .inl (cL, 1001, .inr (.inl fl))), (qf, .inr (2, [w8, w9]))] ++ va_pl L (gE cO G)) H → va_D A ([(qp, .inr (3, [.ref qc, .ref qt, .ref qf, .int (nI a9)])), (qt, .inr (1, [w0, w1, .ref qk, .ref ql, .ref qn, .ref qh, .ref qe])), (qk, .inl (cI, 1001, .inl fk)), (ql, .inl (cI, 1001, .inl (nF pp))), (qn, .inl (cI, 1001, .inl (nF nn))), (qh, .inl (cL, 1001, .inr (.inl fh))), (qe, .inl (cL, 1001, .inr (.inl fl))), (qf, .inr (2, [w8, w9]))] ++ va_pl L (gE cO G)) → va_S A s.heap H locs → lv_has ls 5 [(0, .ref qp)] → W p l e (headSpec w_Parser_parsePins { frames := 11, cells := (kcc X P0), slots := (kss X P0), locals := 700 }).room s m args below meth c H locs (kcc X P0) (kss X P0) Q (F0 m 46 ls [.int (bI y)])) :
    ∀ (k : Nat) (n : Nat) (P : PS) (L : List Nat) (G : PG) (H : Heap) (locs : List Loc) (ls : Array Slot), 9 < n + k → n ≤ P.1 18 - P.2.2.1 17 (P.1 15 - 1) → P0.1 12 ≤ P.1 12 → gL L G → PBd ft tv nv T fk pp nn fh fl P → REP t0 qc qna qdf ft tv fh fl pp nn mm G P c0 → mm + 1 ≤ P.1 15 → (P.1 24 = P.2.2.1 23 (P.1 15 - 1)) → (ob = false → ∀ p, P.2.2.1 17 (P.1 15 - 1) ≤ p → p < P.1 18 → P.2.2.2.2 19 p = false) → P.1 15 = P0.1 15 → X = pl_loop tv nv ob (1002 - n) P → va_P (dC, dI) cl ([(qp, .inr (3, [.ref qc, .ref qt, .ref qf, .int (nI (P.1 12))])), (qt, .inr (1, [w0, w1, .ref qk, .ref ql, .ref qn, .ref qh, .ref qe])), (qk, .inl (cI, 1001, .inl fk)), (ql, .inl (cI, 1001, .inl (nF pp))), (qn, .inl (cI, 1001, .inl (nF nn))), (qh, .inl (cL, 1001, .inr (.inl fh))), (qe, .inl (cL, 1001, .inr (.inl fl))), (qf, .inr (2, [v0, v1]))] ++ va_pl L (gE cO G)) H → va_D A ([(qp, .inr (3, [.ref qc, .ref qt, .ref qf, .int (nI (P.1 12))])), (qt, .inr (1, [w0, w1, .ref qk, .ref ql, .ref qn, .ref qh, .ref qe])), (qk, .inl (cI, 1001, .inl fk)), (ql, .inl (cI, 1001, .inl (nF pp))), (qn, .inl (cI, 1001, .inl (nF nn))), (qh, .inl (cL, 1001, .inr (.inl fh))), (qe, .inl (cL, 1001, .inr (.inl fl))), (qf, .inr (2, [v0, v1]))] ++ va_pl L (gE cO G)) → va_S A s.heap H locs → lv_has ls 5 [(0, .ref qp), (1, .ref c0), (2, .int (nI (6 + (kd + 1)))), (3, .int (nI kd)), (4, .int (nI n))] → W p l e (headSpec w_Parser_parsePins { frames := 11, cells := (kcc X P0), slots := (kss X P0), locals := 700 }).room s m args below meth c H locs (4 * (P.1 12 - P0.1 12)) (700 * (P.1 12 - P0.1 12)) Q (F0 m 13 ls []) := by
  intro k
  induction k with
  | zero =>
    intro n P L G H locs ls hk9 hn h0 hL Bd hR hm h24 hob e15 hX hP hD hS hl
    exfalso; have q9 := Bd.2.2.2.1.2.2; omega
  | succ k ih =>
    intro n P L G H locs ls hk9 hn h0 hL Bd hR hm h24 hob e15 hX hP hD hS hl
    have hcb := Bd.2.2.2.1.2.2
    have h8 := Bd.h15
    refine lv_iload hx hb d_Parser_parsePins_13 (lv_at hl 4 rfl) ?_
    refine lv_bipush (v := nI 8) hx hb d_Parser_parsePins_15 (by decide) ?_
    refine nv_icmp_gt (tgt := 53) hx hb (by omega) (by omega) d_Parser_parsePins_17 (by decide) (fun c_1 => ?_) (fun c_1 => ?_)
    · exfalso; omega
    · refine lv_aload_n hx hb d_Parser_parsePins_20 rfl (lv_at hl 0 rfl) ?_
      refine lv_aload_n hx hb d_Parser_parsePins_21 rfl (lv_at hl 1 rfl) ?_
      refine lv_iload_n hx hb d_Parser_parsePins_22 rfl (lv_at hl 3 rfl) ?_
      obtain ⟨ad, tg, hRX, hc0⟩ := hR
      obtain ⟨⟨k6, kp, ki, kq⟩, l1, l2, l3⟩ := hRX.cur Bd.h15.1 hc0
      have hb3 := Bd.l3
      have hX := hX.trans (show pl_loop tv nv ob (1002 - n) P = pl_loop tv nv ob ((1001 - n) + 1) P by rw [show 1002 - n = (1001 - n) + 1 by omega])
      have hroom := pl_room (tv := tv) (nv := nv) (ob := ob) (f := 1001 - n) Bd.1 h0
      rw [← hX] at hroom
      rw [pl_loop_p Bd.1] at hX
      refine wd_i (cx := [(qp, .inr (3, [.ref qc, .ref qt, .ref qf, .int (nI (P.1 12))])), (qt, .inr (1, [w0, w1, .ref qk, .ref ql, .ref qn, .ref qh, .ref qe])), (qk, .inl (cI, 1001, .inl fk)), (ql, .inl (cI, 1001, .inl (nF pp))), (qn, .inl (cI, 1001, .inl (nF nn))), (qh, .inl (cL, 1001, .inr (.inl fh))), (qe, .inl (cL, 1001, .inr (.inl fl))), (qf, .inr (2, [v0, v1]))]) (wr := []) (pl := va_pl L (gE cO G)) (va_runV (As := [.ref c0, .int (nI kd)]) (rest := []) ⟨hx, hb, hml, hown, hts⟩ (p_Parser_parsePin l dC dI cB cI cL cZ cC cO qp qc qt qf qk ql qn qh qe fk pp nn fh fl (G := G) c0 kd (P.1 12) (ad 2 (P.1 15 - 1)) (rga (ad 5) (P.2.2.1 17 (P.1 15 - 1)) (P.1 18)) v0 v1 t0 _ hL Bd.l3 hk3 hnn k6 kp l1 (by rw [rga_len]; omega) (by rw [hkd]; split <;> decide)) (cwV 2 hts (good_V k_556 k_558 s_Parser_parsePin k_4 k_559) rfl rfl rfl (by decide +kernel) ⟨Nat.le_of_ble_eq_true rfl, Nat.le_of_ble_eq_true rfl⟩) (wd_preV (ci := 3) (r := (R_Parser, F_Parser, 4)) hK hP hD hS hA hF hE [0, 1, 2, 3, 4, 5, 6, 7] (by decide) rfl rfl ⟨0, rfl⟩) rfl rfl hl.1 rfl (lv_room (Nat.le_of_ble_eq_true rfl)) d_Parser_parsePins_23 ⟨hroom.1, hroom.2⟩) hP hD hS hA [0, 1, 2, 3, 4, 5, 6, 7] [] rfl rfl (by decide) (by decide) (fun r_3 u H locs w_2 hP hD hS => ?_)
      have hP : va_P (dC, dI) cl ([(qp, .inr (3, [.ref qc, .ref qt, .ref qf, .int (nI u.1.1)])), (qt, .inr (1, [w0, w1, .ref qk, .ref ql, .ref qn, .ref qh, .ref qe])), (qk, .inl (cI, 1001, .inl fk)), (ql, .inl (cI, 1001, .inl (nF pp))), (qn, .inl (cI, 1001, .inl (nF nn))), (qh, .inl (cL, 1001, .inr (.inl fh))), (qe, .inl (cL, 1001, .inr (.inl fl))), (qf, .inr (2, [u.1.2.1, u.1.2.2]))] ++ va_pl u.2.1 (gE cO u.2.2)) H := hP
      have hD : va_D A ([(qp, .inr (3, [.ref qc, .ref qt, .ref qf, .int (nI u.1.1)])), (qt, .inr (1, [w0, w1, .ref qk, .ref ql, .ref qn, .ref qh, .ref qe])), (qk, .inl (cI, 1001, .inl fk)), (ql, .inl (cI, 1001, .inl (nF pp))), (qn, .inl (cI, 1001, .inl (nF nn))), (qh, .inl (cL, 1001, .inr (.inl fh))), (qe, .inl (cL, 1001, .inr (.inl fl))), (qf, .inr (2, [u.1.2.1, u.1.2.2]))] ++ va_pl u.2.1 (gE cO u.2.2)) := hD
      obtain ⟨r_3e, hu, hfr, hp⟩ := w_2
      subst r_3e
      rw [hkd, ← hc0] at hp
      rw [← hc0] at hfr
      rcases pin_step (ob := ob) (v0 := v0) (v1 := v1) Bd hRX hm h24 hob hu hfr hp with ⟨z, pt, ue, gl, rep, BZ, lt, z24, zob, z15, zc⟩ | ⟨z, pf, ue, gl, rb⟩
      · rw [if_pos z] at hX
        rw [hc0] at rep
        rw [ue] at hP hD
        generalize hZ : pl_p tv nv ob (decide (P.1 18 - P.2.2.1 17 (P.1 15 - 1) < 8)) P = Z at hX z ue rep BZ lt z24 zob z15 zc hP hD
        have zl3 := BZ.l3
        have hP : va_P (dC, dI) cl ([(qp, .inr (3, [.ref qc, .ref qt, .ref qf, .int (nI (Z.1 12))])), (qt, .inr (1, [w0, w1, .ref qk, .ref ql, .ref qn, .ref qh, .ref qe])), (qk, .inl (cI, 1001, .inl fk)), (ql, .inl (cI, 1001, .inl (nF pp))), (qn, .inl (cI, 1001, .inl (nF nn))), (qh, .inl (cL, 1001, .inr (.inl fh))), (qe, .inl (cL, 1001, .inr (.inl fl))), (qf, .inr (2, [v0, v1]))] ++ va_pl u.2.1 (gE cO u.2.2)) H := hP
        have hD : va_D A ([(qp, .inr (3, [.ref qc, .ref qt, .ref qf, .int (nI (Z.1 12))])), (qt, .inr (1, [w0, w1, .ref qk, .ref ql, .ref qn, .ref qh, .ref qe])), (qk, .inl (cI, 1001, .inl fk)), (ql, .inl (cI, 1001, .inl (nF pp))), (qn, .inl (cI, 1001, .inl (nF nn))), (qh, .inl (cL, 1001, .inr (.inl fh))), (qe, .inl (cL, 1001, .inr (.inl fl))), (qf, .inr (2, [v0, v1]))] ++ va_pl u.2.1 (gE cO u.2.2)) := hD
        refine nv_bif_ne (tgt := 31) hx hb d_Parser_parsePins_26 (by decide) (fun c_4 => ?_) (fun c_4 => ?_)
        · refine lv_aload_n hx hb d_Parser_parsePins_31 rfl (lv_at hl 0 rfl) ?_
          refine lv_bipush (v := nI 44) hx hb d_Parser_parsePins_32 (by decide) ?_
          refine we_i (cx := [(qp, .inr (3, [.ref qc, .ref qt, .ref qf, .int (nI (Z.1 12))])), (qt, .inr (1, [w0, w1, .ref qk, .ref ql, .ref qn, .ref qh, .ref qe])), (qk, .inl (cI, 1001, .inl fk))]) (wr := [(ql, .inl (cI, 1001, .inl (nF pp))), (qn, .inl (cI, 1001, .inl (nF nn))), (qh, .inl (cL, 1001, .inr (.inl fh))), (qe, .inl (cL, 1001, .inr (.inl fl))), (qf, .inr (2, [v0, v1]))]) (pl := va_pl u.2.1 (gE cO u.2.2)) (va_runV (As := [.int (nI 44)]) (rest := []) ⟨hx, hb, hml, hown, hts⟩ (c_Parser_takes l dC dI cB cI cL cZ cC cO qp qc qt qf qk ql fk (Z.1 12) (nI 44) _ (by omega)) (cwV 1 hts (good_V k_563 k_565 s_Parser_takes k_4 k_566) rfl rfl rfl (by decide +kernel) ⟨Nat.le_of_ble_eq_true rfl, Nat.le_of_ble_eq_true rfl⟩) (wc_preV (k0 := 0) (ci := 3) (r := (R_Parser, F_Parser, 4)) hK hP hD hS hA hF [0, 1, 2] (by decide) rfl rfl rfl) rfl rfl hl.1 rfl (lv_room (Nat.le_of_ble_eq_true rfl)) d_Parser_parsePins_34 ⟨hroom.1, hroom.2⟩) hP hD hS hA [0, 1, 2] [3, 4, 5, 6, 7] rfl rfl (by decide) (by decide) (fun r_8 u_6 H locs w_7 hP hD hS => ?_)
          have hP : va_P (dC, dI) cl ([(ql, .inl (cI, 1001, .inl (nF pp))), (qn, .inl (cI, 1001, .inl (nF nn))), (qh, .inl (cL, 1001, .inr (.inl fh))), (qe, .inl (cL, 1001, .inr (.inl fl))), (qf, .inr (2, [v0, v1])), (qp, .inr (3, [.ref qc, .ref qt, .ref qf, .int (nI u_6)])), (qt, .inr (1, [w0, w1, .ref qk, .ref ql, .ref qn, .ref qh, .ref qe])), (qk, .inl (cI, 1001, .inl fk))] ++ va_pl u.2.1 (gE cO u.2.2)) H := hP
          have hD : va_D A ([(ql, .inl (cI, 1001, .inl (nF pp))), (qn, .inl (cI, 1001, .inl (nF nn))), (qh, .inl (cL, 1001, .inr (.inl fh))), (qe, .inl (cL, 1001, .inr (.inl fl))), (qf, .inr (2, [v0, v1])), (qp, .inr (3, [.ref qc, .ref qt, .ref qf, .int (nI u_6)])), (qt, .inr (1, [w0, w1, .ref qk, .ref ql, .ref qn, .ref qh, .ref qe])), (qk, .inl (cI, 1001, .inl fk))] ++ va_pl u.2.1 (gE cO u.2.2)) := hD
          obtain ⟨r_8e, u_6e⟩ := w_7
          subst r_8e
          by_cases tk_5 : wt_ok fk (Z.1 12) (nI 44) = true
          · rw [if_pos tk_5] at u_6e
            subst u_6e
            have hb_tk_5 : (Z.1 12) < 1000 := wt_lt tk_5
            refine nv_bif_ne (tgt := 47) hx hb d_Parser_parsePins_37 (by decide) (fun c_9 => ?_) (fun c_9 => ?_)
            · refine lv_iinc (v := nI (n + 1)) (lv' := [(4, .int (nI (n + 1))), (0, .ref qp), (1, .ref c0), (2, .int (nI (6 + (kd + 1)))), (3, .int (nI kd))]) hx hb d_Parser_parsePins_47 hl (k := 4) rfl (nI_1 _) (by decide) rfl (fun ls hl => ?_)
              refine lv_goto (tgt := 13) hx hb d_Parser_parsePins_50 (by decide) ?_
              have sg44 : sg tv (nI 44) Z = true := by rw [← tk_5]; exact (BZ.2.1.sg BZ.le (n := 44) (by decide) (by decide)).symm
              have e44 : sp_sign tv (nI 44) Z = sp_go Z := if_pos sg44
              rw [if_pos sg44, ← e44] at hX
              have z44 : (sp_sign tv (nI 44) Z).1 13 = 0 := by rw [e44]; exact BZ.1
              have e12 : (sp_sign tv (nI 44) Z).1 12 = Z.1 12 + 1 := by rw [e44]; exact go12 BZ.1
              rw [← e12] at hP hD
              have ek : ∀ k, k ≠ 12 → k ≠ 13 → k ≠ 14 → (sp_sign tv (nI 44) Z).1 k = Z.1 k := fun k a b c => zk_sign a b c
              have ea : (sp_sign tv (nI 44) Z).2 = Z.2 := ar_sign _ _ _
              have e15' := ek 15 (by decide) (by decide) (by decide)
              have e18' := ek 18 (by decide) (by decide) (by decide)
              have e24' := ek 24 (by decide) (by decide) (by decide)
              refine W.widen (k := 4 * ((sp_sign tv (nI 44) Z).1 12 - P0.1 12)) (n := 700 * ((sp_sign tv (nI 44) Z).1 12 - P0.1 12)) (by omega) (by omega) ?_
              exact ih (n + 1) (sp_sign tv (nI 44) Z) _ _ _ _ ls (by omega) (by rw [e18', e15', ea]; omega) (by omega) gl (BZ.sgn z44) rep.sgn (by rw [e15']; omega) (by rw [e24', e15', ea]; exact z24) (by rw [e18', e15', ea]; exact zob) (by rw [e15']; omega) (by rw [hX]; congr 1; omega) (hP.part [5, 6, 7, 0, 1, 2, 3, 4] rfl) (hD.part [5, 6, 7, 0, 1, 2, 3, 4] (by decide) rfl) hS (lv_sub hl [1, 2, 3, 4, 0] rfl)
            · exact absurd (tk_5.symm.trans c_9) (by decide)
          · have tk_5 : wt_ok fk (Z.1 12) (nI 44) = false := by simpa using tk_5
            rw [if_neg (by rw [tk_5]; decide)] at u_6e
            replace u_6e := u_6e.symm
            subst u_6e
            refine nv_bif_ne (tgt := 47) hx hb d_Parser_parsePins_37 (by decide) (fun c_10 => ?_) (fun c_10 => ?_)
            · exact absurd (tk_5.symm.trans c_10) (by decide)
            · refine lv_aload_n hx hb d_Parser_parsePins_40 rfl (lv_at hl 0 rfl) ?_
              refine lv_bipush (v := nI 59) hx hb d_Parser_parsePins_41 (by decide) ?_
              refine we_i (cx := [(qp, .inr (3, [.ref qc, .ref qt, .ref qf, .int (nI (Z.1 12))])), (qt, .inr (1, [w0, w1, .ref qk, .ref ql, .ref qn, .ref qh, .ref qe])), (qk, .inl (cI, 1001, .inl fk)), (ql, .inl (cI, 1001, .inl (nF pp))), (qf, .inr (2, [v0, v1]))]) (wr := [(qn, .inl (cI, 1001, .inl (nF nn))), (qh, .inl (cL, 1001, .inr (.inl fh))), (qe, .inl (cL, 1001, .inr (.inl fl)))]) (pl := va_pl u.2.1 (gE cO u.2.2)) (va_runV (As := [.int (nI 59)]) (rest := []) ⟨hx, hb, hml, hown, hts⟩ (c_Parser_want l dC dI cB cI cL cZ cC cO qp qc qt qf qk ql v0 v1 fk (nF pp) (Z.1 12) (nI 59) _ (by omega)) (cwV 1 hts (good_V k_529 k_531 s_Parser_want k_4 k_532) rfl rfl rfl (by decide +kernel) ⟨Nat.le_of_ble_eq_true rfl, Nat.le_of_ble_eq_true rfl⟩) (wc_preV (k0 := 5) (ci := 3) (r := (R_Parser, F_Parser, 4)) hK hP hD hS hA hF [5, 6, 7, 0, 4] (by decide) rfl rfl rfl) rfl rfl hl.1 rfl (lv_room (Nat.le_of_ble_eq_true rfl)) d_Parser_parsePins_43 ⟨hroom.1, hroom.2⟩) hP hD hS hA [5, 6, 7, 0, 4] [1, 2, 3] rfl rfl (by decide) (by decide) (fun r_14 u_12 H locs w_13 hP hD hS => ?_)
              have hP : va_P (dC, dI) cl ([(qn, .inl (cI, 1001, .inl (nF nn))), (qh, .inl (cL, 1001, .inr (.inl fh))), (qe, .inl (cL, 1001, .inr (.inl fl))), (qp, .inr (3, [.ref qc, .ref qt, .ref qf, .int (nI u_12.1)])), (qt, .inr (1, [w0, w1, .ref qk, .ref ql, .ref qn, .ref qh, .ref qe])), (qk, .inl (cI, 1001, .inl fk)), (ql, .inl (cI, 1001, .inl (nF pp))), (qf, .inr (2, [u_12.2.1, u_12.2.2]))] ++ va_pl u.2.1 (gE cO u.2.2)) H := hP
              have hD : va_D A ([(qn, .inl (cI, 1001, .inl (nF nn))), (qh, .inl (cL, 1001, .inr (.inl fh))), (qe, .inl (cL, 1001, .inr (.inl fl))), (qp, .inr (3, [.ref qc, .ref qt, .ref qf, .int (nI u_12.1)])), (qt, .inr (1, [w0, w1, .ref qk, .ref ql, .ref qn, .ref qh, .ref qe])), (qk, .inl (cI, 1001, .inl fk)), (ql, .inl (cI, 1001, .inl (nF pp))), (qf, .inr (2, [u_12.2.1, u_12.2.2]))] ++ va_pl u.2.1 (gE cO u.2.2)) := hD
              obtain ⟨r_14e, u_12e⟩ := w_13
              subst r_14e
              by_cases tk_11 : wt_ok fk (Z.1 12) (nI 59) = true
              · rw [wt_T tk_11] at u_12e
                subst u_12e
                have hb_tk_11 : (Z.1 12) < 1000 := wt_lt tk_11
                have hP : va_P (dC, dI) cl ([(qn, .inl (cI, 1001, .inl (nF nn))), (qh, .inl (cL, 1001, .inr (.inl fh))), (qe, .inl (cL, 1001, .inr (.inl fl))), (qp, .inr (3, [.ref qc, .ref qt, .ref qf, .int (nI ((Z.1 12) + 1))])), (qt, .inr (1, [w0, w1, .ref qk, .ref ql, .ref qn, .ref qh, .ref qe])), (qk, .inl (cI, 1001, .inl fk)), (ql, .inl (cI, 1001, .inl (nF pp))), (qf, .inr (2, [v0, v1]))] ++ va_pl u.2.1 (gE cO u.2.2)) H := hP
                have hD : va_D A ([(qn, .inl (cI, 1001, .inl (nF nn))), (qh, .inl (cL, 1001, .inr (.inl fh))), (qe, .inl (cL, 1001, .inr (.inl fl))), (qp, .inr (3, [.ref qc, .ref qt, .ref qf, .int (nI ((Z.1 12) + 1))])), (qt, .inr (1, [w0, w1, .ref qk, .ref ql, .ref qn, .ref qh, .ref qe])), (qk, .inl (cI, 1001, .inl fk)), (ql, .inl (cI, 1001, .inl (nF pp))), (qf, .inr (2, [v0, v1]))] ++ va_pl u.2.1 (gE cO u.2.2)) := hD
                have sg44 : ¬ sg tv (nI 44) Z = true := by rw [show sg tv (nI 44) Z = false from tk_5.symm ▸ (BZ.2.1.sg BZ.le (n := 44) (by decide) (by decide)).symm]; decide
                rw [if_neg sg44] at hX
                obtain ⟨f1, f2⟩ := fz_sign (v0 := v0) (v1 := v1) BZ.2.1 BZ.1 BZ.le (n := 59) (by decide) (by decide)
                rw [← hX] at f1 f2
                refine W.widen (k := kcc X P0) (n := kss X P0) hroom.1 hroom.2 ?_
                have hx0 : X.1 13 = 0 := of_decide_eq_true (f1.r.symm.trans tk_11)
                have f3 := (f1.t hx0).2
                rw [wt_T tk_11] at f3
                have ea : X.2 = Z.2 := by rw [hX]; exact ar_sign _ _ _
                have e15' : X.1 15 = Z.1 15 := by rw [hX]; exact zk_sign (by decide) (by decide) (by decide)
                have e18' : X.1 18 = Z.1 18 := by rw [hX]; exact zk_sign (by decide) (by decide) (by decide)
                have e24' : X.1 24 = Z.1 24 := by rw [hX]; exact zk_sign (by decide) (by decide) (by decide)
                exact ky (wt_ok fk (Z.1 12) (nI 59)) ((Z.1 12) + 1) (v0) (v1) _ _ _ _ ls f1.r gl (Or.inl ⟨hx0, f3, by rw [hX]; exact rep.sgn, by rw [hX]; exact BZ.sgn (by rw [← hX]; exact hx0), by rw [e24', e15', ea]; exact z24, by rw [e18', e15', ea]; exact zob, by rw [e15']; omega⟩) (hP.part [3, 4, 5, 6, 0, 1, 2, 7] rfl) (hD.part [3, 4, 5, 6, 0, 1, 2, 7] (by decide) rfl) hS (lv_sub hl [0] rfl)
              · have tk_11 : wt_ok fk (Z.1 12) (nI 59) = false := by simpa using tk_11
                rw [wt_F tk_11] at u_12e
                subst u_12e
                have hP : va_P (dC, dI) cl ([(qn, .inl (cI, 1001, .inl (nF nn))), (qh, .inl (cL, 1001, .inr (.inl fh))), (qe, .inl (cL, 1001, .inr (.inl fl))), (qp, .inr (3, [.ref qc, .ref qt, .ref qf, .int (nI (Z.1 12))])), (qt, .inr (1, [w0, w1, .ref qk, .ref ql, .ref qn, .ref qh, .ref qe])), (qk, .inl (cI, 1001, .inl fk)), (ql, .inl (cI, 1001, .inl (nF pp))), (qf, .inr (2, [.int (if fk (Z.1 12) = nI 2 then nI 2 else nI 1), .int (nI (pp (Z.1 12)))]))] ++ va_pl u.2.1 (gE cO u.2.2)) H := hP
                have hD : va_D A ([(qn, .inl (cI, 1001, .inl (nF nn))), (qh, .inl (cL, 1001, .inr (.inl fh))), (qe, .inl (cL, 1001, .inr (.inl fl))), (qp, .inr (3, [.ref qc, .ref qt, .ref qf, .int (nI (Z.1 12))])), (qt, .inr (1, [w0, w1, .ref qk, .ref ql, .ref qn, .ref qh, .ref qe])), (qk, .inl (cI, 1001, .inl fk)), (ql, .inl (cI, 1001, .inl (nF pp))), (qf, .inr (2, [.int (if fk (Z.1 12) = nI 2 then nI 2 else nI 1), .int (nI (pp (Z.1 12)))]))] ++ va_pl u.2.1 (gE cO u.2.2)) := hD
                have sg44 : ¬ sg tv (nI 44) Z = true := by rw [show sg tv (nI 44) Z = false from tk_5.symm ▸ (BZ.2.1.sg BZ.le (n := 44) (by decide) (by decide)).symm]; decide
                rw [if_neg sg44] at hX
                obtain ⟨f1, f2⟩ := fz_sign (v0 := v0) (v1 := v1) BZ.2.1 BZ.1 BZ.le (n := 59) (by decide) (by decide)
                rw [← hX] at f1 f2
                refine W.widen (k := kcc X P0) (n := kss X P0) hroom.1 hroom.2 ?_
                have hx0 : ¬ X.1 13 = 0 := of_decide_eq_false (f1.r.symm.trans tk_11)
                have f3 := (f1.f hx0).2
                rw [wt_F tk_11] at f3
                exact ky (wt_ok fk (Z.1 12) (nI 59)) (Z.1 12) (.int (if fk (Z.1 12) = nI 2 then nI 2 else nI 1)) (.int (nI (pp (Z.1 12)))) _ _ _ _ ls f1.r gl (Or.inr ⟨hx0, f3, rep.rb (by have q9 := BZ.h15; omega)⟩) (hP.part [3, 4, 5, 6, 0, 1, 2, 7] rfl) (hD.part [3, 4, 5, 6, 0, 1, 2, 7] (by decide) rfl) hS (lv_sub hl [0] rfl)
        · exact absurd (pt.symm.trans c_4) (by decide)
      · rw [if_neg z] at hX
        refine nv_bif_ne (tgt := 31) hx hb d_Parser_parsePins_26 (by decide) (fun c_15 => ?_) (fun c_15 => ?_)
        · exact absurd (pf.symm.trans c_15) (by decide)
        · refine lv_iconst (v := nI 0) hx hb d_Parser_parsePins_29 (by decide) ?_
          refine W.widen (k := kcc X P0) (n := kss X P0) hroom.1 hroom.2 ?_
          exact kx u.1.1 u.1.2.1 u.1.2.2 u.2.1 u.2.2 _ _ ls (by rw [hX]; exact z) (by rw [hX]; exact ue) gl rb hP hD hS (lv_sub hl [0] rfl)
set_option maxHeartbeats 4000000 in
set_option maxRecDepth 100000 in
/-- parsePins(chip, keyword, kind) -/
theorem p_Parser_parsePins (l : Launch) (dC : Nat → ClassId) (dI : Nat → Nat → Nat) (cB cI cL cZ cC cO : ClassId) (qp qc qt qf qk ql qn qh qe : Nat) {w0 w1 : Value} (fk : Nat → Int32) (pp nn : Nat → Nat) (fh fl : Nat → Int64) {L : List Nat} {G : PG} (qna qdf T : Nat) (ft tv : Nat → Int32) (nv : Nat → Nat) (mm c0 kd : Nat) (ob : Bool) (X P : PS) (v0 v1 : Value) (t0 sz : Nat) (hX : X = ch_pl tv nv ob (sp_word tv (nI (kd + 1)) P)) (hkd : kd = if ob = true then 1 else 0) (hL : gL L G) (hk3 : ¬ fk 1000 = nI 3) (hnn : ∀ t, nn t ≤ 99) (Bd : PBd ft tv nv T fk pp nn fh fl P) (hR : REP t0 qc qna qdf ft tv fh fl pp nn mm G P c0) (hm : mm + 1 ≤ P.1 15) (h24 : (P.1 24 = P.2.2.1 23 (P.1 15 - 1))) (hob : (ob = false → ∀ p, P.2.2.1 17 (P.1 15 - 1) ≤ p → p < P.1 18 → P.2.2.2.2 19 p = false)) : Met l y_Parser_parsePins w_Parser_parsePins ({ frames := 11, cells := (kcc X P), slots := (kss X P), locals := 700 }) (va_Pc [.ref qp, .ref c0, .int (nI (6 + (kd + 1))), .int (nI kd)] (wB2 (dC, dI) cl [(cB, .byte), (cI, .int), (cL, .long), (cZ, .boolean), (cC, .char), (cO, .object "java/lang/Object")] sz t0 ([(qp, .inr (3, [.ref qc, .ref qt, .ref qf, .int (nI (P.1 12))])), (qt, .inr (1, [w0, w1, .ref qk, .ref ql, .ref qn, .ref qh, .ref qe])), (qk, .inl (cI, 1001, .inl fk)), (ql, .inl (cI, 1001, .inl (nF pp))), (qn, .inl (cI, 1001, .inl (nF nn))), (qh, .inl (cL, 1001, .inr (.inl fh))), (qe, .inl (cL, 1001, .inr (.inl fl))), (qf, .inr (2, [v0, v1]))] ++ va_pl L (gE cO G)))) (va_Qi (fun (r : Int32) (u : (Nat × Value × Value) × List Nat × PG) => r = bI (decide (X.1 13 = 0)) ∧ gL u.2.1 u.2.2 ∧ ((X.1 13 = 0 ∧ u.1 = (X.1 12, v0, v1) ∧ REP t0 qc qna qdf ft tv fh fl pp nn mm u.2.2 X c0 ∧ PBd ft tv nv T fk pp nn fh fl X ∧ (X.1 24 = X.2.2.1 23 (X.1 15 - 1)) ∧ (ob = false → ∀ p, X.2.2.1 17 (X.1 15 - 1) ≤ p → p < X.1 18 → X.2.2.2.2 19 p = false) ∧ X.1 15 = P.1 15) ∨ (¬ X.1 13 = 0 ∧ u.1.2 = ftv X ∧ RB t0 qc qna qdf u.2.2))) (fun u t => wA (dC, dI) cl [(cB, .byte), (cI, .int), (cL, .long), (cZ, .boolean), (cC, .char), (cO, .object "java/lang/Object")] (va_A ([(qp, .inr (3, [.ref qc, .ref qt, .ref qf, .int (nI (P.1 12))])), (qt, .inr (1, [w0, w1, .ref qk, .ref ql, .ref qn, .ref qh, .ref qe])), (qk, .inl (cI, 1001, .inl fk)), (ql, .inl (cI, 1001, .inl (nF pp))), (qn, .inl (cI, 1001, .inl (nF nn))), (qh, .inl (cL, 1001, .inr (.inl fh))), (qe, .inl (cL, 1001, .inr (.inl fl))), (qf, .inr (2, [v0, v1]))] ++ va_pl L (gE cO G)) sz) ([(qp, .inr (3, [.ref qc, .ref qt, .ref qf, .int (nI u.1.1)])), (qt, .inr (1, [w0, w1, .ref qk, .ref ql, .ref qn, .ref qh, .ref qe])), (qk, .inl (cI, 1001, .inl fk)), (ql, .inl (cI, 1001, .inl (nF pp))), (qn, .inl (cI, 1001, .inl (nF nn))), (qh, .inl (cL, 1001, .inr (.inl fh))), (qe, .inl (cL, 1001, .inr (.inl fl))), (qf, .inr (2, [u.1.2.1, u.1.2.2]))] ++ va_pl u.2.1 (gE cO u.2.2)) t) (va_A ([(qp, .inr (3, [.ref qc, .ref qt, .ref qf, .int (nI (P.1 12))])), (qt, .inr (1, [w0, w1, .ref qk, .ref ql, .ref qn, .ref qh, .ref qe])), (qk, .inl (cI, 1001, .inl fk)), (ql, .inl (cI, 1001, .inl (nF pp))), (qn, .inl (cI, 1001, .inl (nF nn))), (qh, .inl (cL, 1001, .inr (.inl fh))), (qe, .inl (cL, 1001, .inr (.inl fl))), (qf, .inr (2, [v0, v1]))] ++ va_pl L (gE cO G)) sz)) (kcc X P) (kss X P) (va_A ([(qp, .inr (3, [.ref qc, .ref qt, .ref qf, .int (nI (P.1 12))])), (qt, .inr (1, [w0, w1, .ref qk, .ref ql, .ref qn, .ref qh, .ref qe])), (qk, .inl (cI, 1001, .inl fk)), (ql, .inl (cI, 1001, .inl (nF pp))), (qn, .inl (cI, 1001, .inl (nF nn))), (qh, .inl (cL, 1001, .inr (.inl fh))), (qe, .inl (cL, 1001, .inr (.inl fl))), (qf, .inr (2, [v0, v1]))] ++ va_pl L (gE cO G)) sz) := by
  refine Met.ofW (cc := b_Parser_parsePins) (maxL := 5) (ret := (some ClassFile.FieldType.boolean)) (by decide) rfl ?_
  intro p e s m args below meth c s₁ B hml hv
  obtain ⟨rfl, ⟨hsz, hP, hK, hD0, hF⟩, hE⟩ := hv
  have hx := B.exec
  have hb := B.bytes
  have hr := B.returns
  have hts := atoms_spec (ws := w_Parser_parsePins) B.pre
  have hts : ∀ w ∈ tb, w.before _ s = true := fun w h => hts w (List.mem_cons_of_mem _ h)
  have hown : s.vm.findClass R_Parser = some m.cls := findClass_of_methodNamed B.named
  have hlocks := B.notSynchronized
  subst hsz
  have hD := hD0.self (sz := s.heap.size)
  generalize hAe : va_A ([(qp, .inr (3, [.ref qc, .ref qt, .ref qf, .int (nI (P.1 12))])), (qt, .inr (1, [w0, w1, .ref qk, .ref ql, .ref qn, .ref qh, .ref qe])), (qk, .inl (cI, 1001, .inl fk)), (ql, .inl (cI, 1001, .inl (nF pp))), (qn, .inl (cI, 1001, .inl (nF nn))), (qh, .inl (cL, 1001, .inr (.inl fh))), (qe, .inl (cL, 1001, .inr (.inl fl))), (qf, .inr (2, [v0, v1]))] ++ va_pl L (gE cO G)) s.heap.size = A at hD hF hE ⊢
  have hA : ∀ q : Nat, s.heap.size ≤ q → A q := fun q h => by rw [← hAe]; exact Or.inr h
  have hS : va_S A s.heap s.heap [] := va_S.rf
  have hP : va_P (dC, dI) cl ([(qp, .inr (3, [.ref qc, .ref qt, .ref qf, .int (nI (P.1 12))])), (qt, .inr (1, [w0, w1, .ref qk, .ref ql, .ref qn, .ref qh, .ref qe])), (qk, .inl (cI, 1001, .inl fk)), (ql, .inl (cI, 1001, .inl (nF pp))), (qn, .inl (cI, 1001, .inl (nF nn))), (qh, .inl (cL, 1001, .inr (.inl fh))), (qe, .inl (cL, 1001, .inr (.inl fl))), (qf, .inr (2, [v0, v1]))] ++ va_pl L (gE cO G)) s.heap := hP
  have hl := lv_entry ([.ref qp, .ref c0, .int (nI (6 + (kd + 1))), .int (nI kd)]) (n := 5) (Nat.le_of_ble_eq_true rfl)
  rw [lg_entry_eq]
  generalize (lg_sl ([.ref qp, .ref c0, .int (nI (6 + (kd + 1))), .int (nI kd)]) ++ List.replicate (5 - (lg_sl ([.ref qp, .ref c0, .int (nI (6 + (kd + 1))), .int (nI kd)])).length) Slot.unset).toArray = ls at hl ⊢
  have hl : lv_has ls 5 [(0, .ref qp), (1, .ref c0), (2, .int (nI (6 + (kd + 1)))), (3, .int (nI kd))] := hl
  have hb3 := Bd.l3
  have fw := fz_word (v0 := v0) (v1 := v1) Bd.2.1 Bd.1 Bd.le (n := kd + 1) (by rw [hkd]; split <;> decide)
  refine lv_aload_n hx hb d_Parser_parsePins_0 rfl (lv_at hl 0 rfl) ?_
  refine lv_iload_n hx hb d_Parser_parsePins_1 rfl (lv_at hl 2 rfl) ?_
  refine we_i (cx := [(qp, .inr (3, [.ref qc, .ref qt, .ref qf, .int (nI (P.1 12))])), (qt, .inr (1, [w0, w1, .ref qk, .ref ql, .ref qn, .ref qh, .ref qe])), (qk, .inl (cI, 1001, .inl fk)), (ql, .inl (cI, 1001, .inl (nF pp))), (qf, .inr (2, [v0, v1]))]) (wr := [(qn, .inl (cI, 1001, .inl (nF nn))), (qh, .inl (cL, 1001, .inr (.inl fh))), (qe, .inl (cL, 1001, .inr (.inl fl)))]) (pl := va_pl L (gE cO G)) (va_runV (As := [.int (nI (6 + (kd + 1)))]) (rest := []) ⟨hx, hb, hml, hown, hts⟩ (c_Parser_want l dC dI cB cI cL cZ cC cO qp qc qt qf qk ql v0 v1 fk (nF pp) (P.1 12) (nI (6 + (kd + 1))) _ (by omega)) (cwV 1 hts (good_V k_529 k_531 s_Parser_want k_4 k_532) rfl rfl rfl (by decide +kernel) ⟨Nat.le_of_ble_eq_true rfl, Nat.le_of_ble_eq_true rfl⟩) (wc_preV (k0 := 0) (ci := 3) (r := (R_Parser, F_Parser, 4)) hK hP hD hS hA hF [0, 1, 2, 3, 7] (by decide) rfl rfl rfl) rfl rfl hl.1 rfl (lv_room (Nat.le_of_ble_eq_true rfl)) d_Parser_parsePins_2 ⟨Nat.le_of_ble_eq_true rfl, Nat.le_of_ble_eq_true rfl⟩) hP hD hS hA [0, 1, 2, 3, 7] [4, 5, 6] rfl rfl (by decide) (by decide) (fun r_4 u_2 H locs w_3 hP hD hS => ?_)
  have hP : va_P (dC, dI) cl ([(qn, .inl (cI, 1001, .inl (nF nn))), (qh, .inl (cL, 1001, .inr (.inl fh))), (qe, .inl (cL, 1001, .inr (.inl fl))), (qp, .inr (3, [.ref qc, .ref qt, .ref qf, .int (nI u_2.1)])), (qt, .inr (1, [w0, w1, .ref qk, .ref ql, .ref qn, .ref qh, .ref qe])), (qk, .inl (cI, 1001, .inl fk)), (ql, .inl (cI, 1001, .inl (nF pp))), (qf, .inr (2, [u_2.2.1, u_2.2.2]))] ++ va_pl L (gE cO G)) H := hP
  have hD : va_D A ([(qn, .inl (cI, 1001, .inl (nF nn))), (qh, .inl (cL, 1001, .inr (.inl fh))), (qe, .inl (cL, 1001, .inr (.inl fl))), (qp, .inr (3, [.ref qc, .ref qt, .ref qf, .int (nI u_2.1)])), (qt, .inr (1, [w0, w1, .ref qk, .ref ql, .ref qn, .ref qh, .ref qe])), (qk, .inl (cI, 1001, .inl fk)), (ql, .inl (cI, 1001, .inl (nF pp))), (qf, .inr (2, [u_2.2.1, u_2.2.2]))] ++ va_pl L (gE cO G)) := hD
  obtain ⟨r_4e, u_2e⟩ := w_3
  subst r_4e
  by_cases tk_1 : wt_ok fk (P.1 12) (nI (6 + (kd + 1))) = true
  · rw [wt_T tk_1] at u_2e
    subst u_2e
    have hb_tk_1 : (P.1 12) < 1000 := wt_lt tk_1
    have hP : va_P (dC, dI) cl ([(qn, .inl (cI, 1001, .inl (nF nn))), (qh, .inl (cL, 1001, .inr (.inl fh))), (qe, .inl (cL, 1001, .inr (.inl fl))), (qp, .inr (3, [.ref qc, .ref qt, .ref qf, .int (nI ((P.1 12) + 1))])), (qt, .inr (1, [w0, w1, .ref qk, .ref ql, .ref qn, .ref qh, .ref qe])), (qk, .inl (cI, 1001, .inl fk)), (ql, .inl (cI, 1001, .inl (nF pp))), (qf, .inr (2, [v0, v1]))] ++ va_pl L (gE cO G)) H := hP
    have hD : va_D A ([(qn, .inl (cI, 1001, .inl (nF nn))), (qh, .inl (cL, 1001, .inr (.inl fh))), (qe, .inl (cL, 1001, .inr (.inl fl))), (qp, .inr (3, [.ref qc, .ref qt, .ref qf, .int (nI ((P.1 12) + 1))])), (qt, .inr (1, [w0, w1, .ref qk, .ref ql, .ref qn, .ref qh, .ref qe])), (qk, .inl (cI, 1001, .inl fk)), (ql, .inl (cI, 1001, .inl (nF pp))), (qf, .inr (2, [v0, v1]))] ++ va_pl L (gE cO G)) := hD
    refine nv_bif_ne (tgt := 10) hx hb d_Parser_parsePins_5 (by decide) (fun c_5 => ?_) (fun c_5 => ?_)
    · refine lv_iconst (v := nI 0) hx hb d_Parser_parsePins_10 (by decide) ?_
      refine lv_istore (lv' := [(4, .int (nI 0)), (0, .ref qp), (1, .ref c0), (2, .int (nI (6 + (kd + 1)))), (3, .int (nI kd))]) hx hb d_Parser_parsePins_11 hl (by decide) rfl (fun ls hl => ?_)
      have hz1 : (sp_word tv (nI (kd + 1)) P).1 13 = 0 := of_decide_eq_true (fw.1.r.symm.trans tk_1)
      have ew := (fw.2 hz1).2.1
      have e12 : (sp_word tv (nI (kd + 1)) P).1 12 = P.1 12 + 1 := by rw [ew]; exact go12 Bd.1
      rw [← e12] at hP hD
      have ea : (sp_word tv (nI (kd + 1)) P).2 = P.2 := ar_word _ _ _
      have e15' : (sp_word tv (nI (kd + 1)) P).1 15 = P.1 15 := zk_word (by decide) (by decide) (by decide)
      have e18' : (sp_word tv (nI (kd + 1)) P).1 18 = P.1 18 := zk_word (by decide) (by decide) (by decide)
      have e24' : (sp_word tv (nI (kd + 1)) P).1 24 = P.1 24 := zk_word (by decide) (by decide) (by decide)
      refine W.widen (k := 4 * ((sp_word tv (nI (kd + 1)) P).1 12 - P.1 12)) (n := 700 * ((sp_word tv (nI (kd + 1)) P).1 12 - P.1 12)) (Nat.zero_le _) (Nat.zero_le _) ?_
      refine lp_Parser_parsePins (mm := mm) (c0 := c0) (kd := kd) (ob := ob) (v0 := v0) (v1 := v1) (X := X) (P0 := P) (T := T) (ft := ft) (tv := tv) (nv := nv) (qna := qna) (qdf := qdf) hk3 hnn hkd hx hb hml hown hts hA hF hE hK (fun a9 w8 w9 L G H locs ls hx0 hw hL hB hP hD hS hl => ?_) (fun y a9 w8 w9 L G H locs ls hy hL hg hP hD hS hl => ?_) 10 0 (sp_word tv (nI (kd + 1)) P) _ _ _ _ ls (by omega) (Nat.zero_le _) (by omega) hL (Bd.wrd hz1) hR.wrd (by rw [e15']; exact hm) (by rw [e24', e15', ea]; exact h24) (by rw [e18', e15', ea]; exact hob) e15' (by rw [hX]; exact if_pos hz1) (hP.part [3, 4, 5, 6, 0, 1, 2, 7] rfl) (hD.part [3, 4, 5, 6, 0, 1, 2, 7] (by decide) rfl) hS (lv_sub hl [1, 2, 3, 4, 0] rfl)
      · exact wr_z (x := false) hx hb hr hlocks ((a9, w8, w9), L, G) ⟨by rw [show decide (X.1 13 = 0) = false from by simpa using hx0], hL, Or.inr ⟨hx0, hw, hB⟩⟩ hK hP hD hS d_Parser_parsePins_30
      · exact wr_z (x := y) hx hb hr hlocks ((a9, w8, w9), L, G) ⟨by rw [hy], hL, hg⟩ hK hP hD hS d_Parser_parsePins_46
    · exact absurd (tk_1.symm.trans c_5) (by decide)
  · have tk_1 : wt_ok fk (P.1 12) (nI (6 + (kd + 1))) = false := by simpa using tk_1
    rw [wt_F tk_1] at u_2e
    subst u_2e
    have hP : va_P (dC, dI) cl ([(qn, .inl (cI, 1001, .inl (nF nn))), (qh, .inl (cL, 1001, .inr (.inl fh))), (qe, .inl (cL, 1001, .inr (.inl fl))), (qp, .inr (3, [.ref qc, .ref qt, .ref qf, .int (nI (P.1 12))])), (qt, .inr (1, [w0, w1, .ref qk, .ref ql, .ref qn, .ref qh, .ref qe])), (qk, .inl (cI, 1001, .inl fk)), (ql, .inl (cI, 1001, .inl (nF pp))), (qf, .inr (2, [.int (if fk (P.1 12) = nI 2 then nI 2 else nI 1), .int (nI (pp (P.1 12)))]))] ++ va_pl L (gE cO G)) H := hP
    have hD : va_D A ([(qn, .inl (cI, 1001, .inl (nF nn))), (qh, .inl (cL, 1001, .inr (.inl fh))), (qe, .inl (cL, 1001, .inr (.inl fl))), (qp, .inr (3, [.ref qc, .ref qt, .ref qf, .int (nI (P.1 12))])), (qt, .inr (1, [w0, w1, .ref qk, .ref ql, .ref qn, .ref qh, .ref qe])), (qk, .inl (cI, 1001, .inl fk)), (ql, .inl (cI, 1001, .inl (nF pp))), (qf, .inr (2, [.int (if fk (P.1 12) = nI 2 then nI 2 else nI 1), .int (nI (pp (P.1 12)))]))] ++ va_pl L (gE cO G)) := hD
    refine nv_bif_ne (tgt := 10) hx hb d_Parser_parsePins_5 (by decide) (fun c_6 => ?_) (fun c_6 => ?_)
    · exact absurd (tk_1.symm.trans c_6) (by decide)
    · refine lv_iconst (v := nI 0) hx hb d_Parser_parsePins_8 (by decide) ?_
      have hz1 : ¬ (sp_word tv (nI (kd + 1)) P).1 13 = 0 := of_decide_eq_false (fw.1.r.symm.trans tk_1)
      have hXe : X = sp_word tv (nI (kd + 1)) P := by rw [hX]; exact if_neg hz1
      have hx0 : ¬ X.1 13 = 0 := by rw [hXe]; exact hz1
      have f3 := (fw.1.f hz1).2
      rw [wt_F tk_1] at f3
      refine W.widen (k := kcc X P) (n := kss X P) (Nat.zero_le _) (Nat.zero_le _) ?_
      exact wr_z (x := false) hx hb hr hlocks ((P.1 12, .int (if fk (P.1 12) = nI 2 then nI 2 else nI 1), .int (nI (pp (P.1 12)))), L, G) ⟨by rw [show decide (X.1 13 = 0) = false from by simpa using hx0], hL, Or.inr ⟨hx0, by rw [hXe]; exact f3, hR.rb (by have q9 := Bd.h15; omega)⟩⟩ hK (hP.part [3, 4, 5, 6, 0, 1, 2, 7] rfl) (hD.part [3, 4, 5, 6, 0, 1, 2, 7] (by decide) rfl) hS d_Parser_parsePins_9
