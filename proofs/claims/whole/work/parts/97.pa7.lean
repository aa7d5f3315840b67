def REQ (t0 qc qna qdf : Nat) (ft tv : Nat → Int32) (fh fl : Nat → Int64) (pp nn : Nat → Nat) (m : Nat) (G : PG) (P : PS) (c0 p0 : Nat) : Prop := ∃ ad tg, RX t0 qc qna qdf ft tv fh fl pp nn m G ad tg P ∧ ad 0 (P.1 15 - 1) = c0 ∧ ad 9 (P.1 24 - 1) = p0
section RQX
variable {t0 qc qna qdf m : Nat} {ft tv : Nat → Int32} {nv : Nat → Nat} {T : Nat} {fk : Nat → Int32} {pp nn : Nat → Nat} {fh fl : Nat → Int64} {G : PG} {ad : Nat → Nat → Nat} {tg : Nat → Nat × Nat} {P P0 : PS} {c0 p0 : Nat}
theorem REQ.sgn {c : Int32} (h : REQ t0 qc qna qdf ft tv fh fl pp nn m G P c0 p0) : REQ t0 qc qna qdf ft tv fh fl pp nn m G (sp_sign tv c P) c0 p0 := by
  obtain ⟨ad, tg, h1, h2, h3⟩ := h
  exact ⟨ad, tg, h1.sgn, by rw [zk_sign (by decide) (by decide) (by decide)]; exact h2, by rw [zk_sign (by decide) (by decide) (by decide)]; exact h3⟩
theorem REQ.rep (h : REQ t0 qc qna qdf ft tv fh fl pp nn m G P c0 p0) : REP t0 qc qna qdf ft tv fh fl pp nn m G P c0 := by
  obtain ⟨ad, tg, h1, h2, h3⟩ := h
  exact ⟨ad, tg, h1, h2⟩
theorem RX.curq (h : RX t0 qc qna qdf ft tv fh fl pp nn m G ad tg P) (h24 : 1 ≤ P.1 24) (hp : ad 9 (P.1 24 - 1) = p0) : G.1 p0 = 5 ∧ G.2.2.2.2.2 p0 1 = some (ad 11 (P.1 24 - 1)) ∧ LSx t0 G (ad 11 (P.1 24 - 1)) (rga (ad 12) (P.2.2.1 26 (P.1 24 - 1)) (P.1 27)) := by
  obtain ⟨r1, r2, r3⟩ := h.2.2.2.2.2.2.2.1 (P.1 24 - 1) (by omega)
  rw [show le_ P (P.1 24 - 1) = P.1 27 by unfold le_; rw [if_neg (by omega)]] at r3
  rw [hp] at r1
  exact ⟨r1.1, r1.2.2.1, r3⟩
theorem RX.wp (h : RX t0 qc qna qdf ft tv fh fl pp nn m G ad tg P) {a b : Nat} (hb : b ≤ P.1 18) : ∀ x ∈ rga (ad 5) a b, G.1 x = 2 ∧ ∃ nm, G.2.2.2.2.2 x 0 = some nm ∧ G.1 nm = 1 := fun x hx => by
  obtain ⟨j, h1, h2, rfl⟩ := rga_mem.mp hx
  have q := h.2.2.2.2.2.1 j (by omega)
  exact ⟨q.1.1, _, q.1.2.1, q.2.1⟩
theorem RX.wi (h : RX t0 qc qna qdf ft tv fh fl pp nn m G ad tg P) {a b : Nat} (hb : b ≤ P.1 37) : ∀ x ∈ rga (ad 7) a b, G.1 x = 2 ∧ ∃ nm, G.2.2.2.2.2 x 0 = some nm ∧ G.1 nm = 1 := fun x hx => by
  obtain ⟨j, h1, h2, rfl⟩ := rga_mem.mp hx
  have q := h.2.2.2.2.2.2.1 j (by omega)
  exact ⟨q.1.1, _, q.1.2.1, q.2.1⟩
theorem pt_u {f : Nat} (hz : P.1 13 = 0) : pt_loop ft tv nv (f + 1) P = if sg tv (nI 44) (sp_link ft tv nv P) = true then pt_loop ft tv nv f (sp_go (sp_link ft tv nv P)) else sp_link ft tv nv P := by rw [pt_loop_s, if_pos hz]
/-- a fault in a link -/
theorem pt_bad {f : Nat} (hz : P.1 13 = 0) (z : ¬ (sp_link ft tv nv P).1 13 = 0) : ¬ (sp_sign tv (nI 59) (sp_sign tv (nI 41) (pt_loop ft tv nv (f + 1) P))).1 13 = 0 ∧ ftv (sp_sign tv (nI 59) (sp_sign tv (nI 41) (pt_loop ft tv nv (f + 1) P))) = ftv (sp_link ft tv nv P) := by
  have e : (pt_loop ft tv nv (f + 1) P).1 13 = (sp_link ft tv nv P).1 13 ∧ (pt_loop ft tv nv (f + 1) P).1 14 = (sp_link ft tv nv P).1 14 := by
    rw [pt_u hz]
    split
    · rw [pt_loop_e (show ¬ (sp_go (sp_link ft tv nv P)).1 13 = 0 from z)]; exact ⟨rfl, rfl⟩
    · exact ⟨rfl, rfl⟩
  have z1 : ¬ (pt_loop ft tv nv (f + 1) P).1 13 = 0 := by rw [e.1]; exact z
  have s1 := stk_sign (tv := tv) (c := nI 41) z1
  have z2 : ¬ (sp_sign tv (nI 41) (pt_loop ft tv nv (f + 1) P)).1 13 = 0 := by rw [s1.1]; exact z1
  have s2 := stk_sign (tv := tv) (c := nI 59) z2
  refine ⟨by rw [s2.1]; exact z2, ?_⟩
  unfold ftv
  rw [s2.1, s2.2, s1.1, s1.2, e.1, e.2]
theorem pt_room {f : Nat} (hz : P.1 13 = 0) (h0 : P0.1 12 ≤ P.1 12) : 4 * (P.1 12 - P0.1 12) + 8 ≤ kcc (sp_sign tv (nI 59) (sp_sign tv (nI 41) (pt_loop ft tv nv (f + 1) P))) P0 ∧ 700 * (P.1 12 - P0.1 12) + 1230 ≤ kss (sp_sign tv (nI 59) (sp_sign tv (nI 41) (pt_loop ft tv nv (f + 1) P))) P0 := by
  have l2 := z12_sign tv (nI 59) (sp_sign tv (nI 41) (pt_loop ft tv nv (f + 1) P))
  have l1 := z12_sign tv (nI 41) (pt_loop ft tv nv (f + 1) P)
  by_cases z : (sp_link ft tv nv P).1 13 = 0
  · have l3 := link_12 z
    have l4 : (sp_link ft tv nv P).1 12 ≤ (pt_loop ft tv nv (f + 1) P).1 12 := by
      rw [pt_u hz]
      split
      · exact Nat.le_trans (z12_go _) (z12_pt f _)
      · exact Nat.le_refl _
    have g := kcc_g (sp_sign tv (nI 59) (sp_sign tv (nI 41) (pt_loop ft tv nv (f + 1) P))) P0
    omega
  · have g := kcc_f (P := P0) (pt_bad (f := f) hz z).1
    have l4 := z12_pt (ft := ft) (tv := tv) (nv := nv) (f + 1) P
    rw [g.1, g.2]
    omega
theorem ci_z (B : PBd ft tv nv T fk pp nn fh fl P) : 3 * P.1 27 ≤ P.1 12 ∧ P.1 18 ≤ 200 ∧ P.1 37 ≤ P.2.2.1 36 (P.1 15 - 1) + 30 ∧ P.1 18 ≤ P.2.2.1 17 (P.1 15 - 1) + 8 ∧ P.1 24 ≤ P.2.2.1 23 (P.1 15 - 1) + 12 := ⟨B.2.2.2.1.1.2.2.2.1, B.2.2.2.1.1.2.1, B.2.2.2.1.1.2.2.1.2.1, B.2.2.2.1.2.2.2.1, B.2.2.2.1.2.1.2.1⟩
end RQX
theorem d_Parser_parseLinks_0 : decode b_Parser_parseLinks 0 = .ok (.iconst 0, 1) := by decide +kernel
theorem d_Parser_parseLinks_1 : decode b_Parser_parseLinks 1 = .ok (.istore_n 3, 1) := by decide +kernel
theorem d_Parser_parseLinks_2 : decode b_Parser_parseLinks 2 = .ok (.iload_n 3, 1) := by decide +kernel
theorem d_Parser_parseLinks_3 : decode b_Parser_parseLinks 3 = .ok (.sipush 1000, 3) := by decide +kernel
theorem d_Parser_parseLinks_6 : decode b_Parser_parseLinks 6 = .ok (.if_icmp .ge 53, 3) := by decide +kernel
theorem d_Parser_parseLinks_9 : decode b_Parser_parseLinks 9 = .ok (.aload_n 0, 1) := by decide +kernel
theorem d_Parser_parseLinks_10 : decode b_Parser_parseLinks 10 = .ok (.aload_n 1, 1) := by decide +kernel
theorem d_Parser_parseLinks_11 : decode b_Parser_parseLinks 11 = .ok (.aload_n 2, 1) := by decide +kernel
theorem d_Parser_parseLinks_12 : decode b_Parser_parseLinks 12 = .ok (.invokevirtual 115, 3) := by decide +kernel
theorem d_Parser_parseLinks_15 : decode b_Parser_parseLinks 15 = .ok (.ifCond .ne 5, 3) := by decide +kernel
theorem d_Parser_parseLinks_18 : decode b_Parser_parseLinks 18 = .ok (.iconst 0, 1) := by decide +kernel
theorem d_Parser_parseLinks_19 : decode b_Parser_parseLinks 19 = .ok (.ireturn, 1) := by decide +kernel
theorem d_Parser_parseLinks_20 : decode b_Parser_parseLinks 20 = .ok (.aload_n 0, 1) := by decide +kernel
theorem d_Parser_parseLinks_21 : decode b_Parser_parseLinks 21 = .ok (.bipush 44, 2) := by decide +kernel
theorem d_Parser_parseLinks_23 : decode b_Parser_parseLinks 23 = .ok (.invokevirtual 79, 3) := by decide +kernel
theorem d_Parser_parseLinks_26 : decode b_Parser_parseLinks 26 = .ok (.ifCond .ne 27, 3) := by decide +kernel
theorem d_Parser_parseLinks_29 : decode b_Parser_parseLinks 29 = .ok (.aload_n 0, 1) := by decide +kernel
theorem d_Parser_parseLinks_30 : decode b_Parser_parseLinks 30 = .ok (.bipush 41, 2) := by decide +kernel
theorem d_Parser_parseLinks_32 : decode b_Parser_parseLinks 32 = .ok (.invokevirtual 43, 3) := by decide +kernel
theorem d_Parser_parseLinks_35 : decode b_Parser_parseLinks 35 = .ok (.ifCond .eq 16, 3) := by decide +kernel
theorem d_Parser_parseLinks_38 : decode b_Parser_parseLinks 38 = .ok (.aload_n 0, 1) := by decide +kernel
theorem d_Parser_parseLinks_39 : decode b_Parser_parseLinks 39 = .ok (.bipush 59, 2) := by decide +kernel
theorem d_Parser_parseLinks_41 : decode b_Parser_parseLinks 41 = .ok (.invokevirtual 43, 3) := by decide +kernel
theorem d_Parser_parseLinks_44 : decode b_Parser_parseLinks 44 = .ok (.ifCond .eq 7, 3) := by decide +kernel
theorem d_Parser_parseLinks_47 : decode b_Parser_parseLinks 47 = .ok (.iconst 1, 1) := by decide +kernel
theorem d_Parser_parseLinks_48 : decode b_Parser_parseLinks 48 = .ok (.goto 4, 3) := by decide +kernel
theorem d_Parser_parseLinks_51 : decode b_Parser_parseLinks 51 = .ok (.iconst 0, 1) := by decide +kernel
theorem d_Parser_parseLinks_52 : decode b_Parser_parseLinks 52 = .ok (.ireturn, 1) := by decide +kernel
theorem d_Parser_parseLinks_53 : decode b_Parser_parseLinks 53 = .ok (.iinc 3 1, 3) := by decide +kernel
theorem d_Parser_parseLinks_56 : decode b_Parser_parseLinks 56 = .ok (.goto (-54), 3) := by decide +kernel
theorem d_Parser_parseLinks_59 : decode b_Parser_parseLinks 59 = .ok (.iconst 0, 1) := by decide +kernel
theorem d_Parser_parseLinks_60 : decode b_Parser_parseLinks 60 = .ok (.ireturn, 1) := by decide +kernel
set_option maxHeartbeats 4000000 in
set_option maxRecDepth 100000 in
theorem lp_Parser_parseLinks {p : Program} {l : Launch} {e : Env} {s : State} {m : MethodId} {args : Array Value} {below : List Frame} {meth : Method} {c : Code} {Q : State → Prop} {A : Nat → Prop} {dC : Nat → ClassId} {dI : Nat → Nat → Nat} {cB cI cL cZ cC cO : ClassId} {t0 : Nat} {qp qc qt qf qk ql qn qh qe : Nat} {w0 w1 : Value} {fk : Nat → Int32} {pp nn : Nat → Nat} {fh fl : Nat → Int64} {qna qdf T : Nat} {ft tv : Nat → Int32} {nv : Nat → Nat} {mm c0 p0 : Nat} {v0 v1 : Value} {X P0 : PS} (hk3 : ¬ fk 1000 = nI 3) (hnn : ∀ t, nn t ≤ 99) (hk10 : ¬ (fk 1000 = nI 10 ∨ fk 1000 = nI 11)) (hx : p.tables.exec = Jvm.exec) (hb : c.code = b_Parser_parseLinks) (hml : c.maxLocals = 4) (hown : s.vm.findClass R_Parser = some m.cls) (hts : ∀ w ∈ tb, w.before args s = true) (hA : ∀ q, s.heap.size ≤ q → A q) (hF : stF A s) (hE : stE A t0 s) (hK : va_K (dC, dI) cl [(cB, .byte), (cI, .int), (cL, .long), (cZ, .boolean), (cC, .char), (cO, .object "java/lang/Object")] s)
    (kx : ∀ (a9 : Nat) (w8 w9 : Value) (L : List Nat) (G : PG) (H : Heap) (locs : List Loc) (ls : Array Slot), ¬ X.1 13 = 0 → (w8, w9) = ftv X → gL L G → RB t0 qc qna qdf G → va_P (dC, dI) cl ([(qp, .inr (3, [.ref qc, .ref qt, .ref qf, .int (nI a9)])), (qt, .inr (1, [w0, w1, .ref qk, .ref ql, .ref qn, .ref qh, .ref qe])), (qk, .inl (cI, 1001, .inl fk)), (ql, .inl (cI, 1001, .inl (nF pp))), (qn, .inl (cI, 1001, .inl (nF nn))), (qh, .inl (cL, 1001, .inr (.inl fh))), (qe, .inl (cL, 1001, .inr (.inl fl))), (qf, .inr (2, [w8, w9]))] ++ va_pl L (gE cO G)) H → va_D A ([(qp, .inr (3, [.ref qc, .ref qt, .ref qf, .int (nI a9)])), (qt, .inr (1, [w0, w1, .ref qk, .ref ql, .ref qn, .ref qh, .ref qe])), (qk, .inl (cI, 1001, .inl fk)), (ql, .inl (cI, 1001, .inl (nF pp))), (qn, .inl (cI, 1001, .inl (nF nn))), (qh, .inl (cL, 1001, .inr (.inl fh))), (qe, .inl (cL, 1001, .inr (.inl fl))), (qf, .inr (2, [w8, w9]))] ++ va_pl L (gE cO G)) → va_S A s.heap H locs → lv_has ls 4 [(0, .ref qp)] → W p l e (headSpec w_Parser_parseLinks { frames := 12, cells := (kcc X P0), slots := (kss X P0), locals := 760 }).room s m args below meth c H locs (kcc X P0) (kss X P0) Q (F0 m 19 ls [.int (nI 0)])) (ky : ∀ (a9 : Nat) (w8 w9 : Value) (L : List Nat) (G : PG) (H : Heap) (locs : List Loc) (ls : Array Slot), ¬ X.1 13 = 0 → (w8, w9) = ftv X → gL L G → RB t0 qc qna qdf G → va_P (dC, dI) cl ([(qp, .inr (3, [.ref qc, .ref qt, .ref qf, .int (nI a9)])), (qt, .inr (1, [w0, w1, .ref qk, .ref ql, .ref qn, .ref qh, .ref qe])), (qk, .inl (cI, 1001, .inl fk)), (ql, .inl (cI, 1001, .inl (nF pp))), (qn, .inl (cI, 1001, .inl (nF nn))), (qh, .inl (cL, 1001, .inr (.inl fh))), (qe, .inl (cL, 1001, .inr (.inl fl))), (qf, .inr (2, [w8, w9]))] ++ va_pl L (gE cO G)) H → va_D A ([(qp, .inr (3, [.ref qc, .ref qt, .ref qf, .int (nI a9)])), (qt, .inr (1, [w0, w1, .ref qk, .ref ql, .ref qn, .ref qh, .ref qe])), (qk, .inl (cI, 1001, .inl fk)), (ql, .inl (cI, 1001, .inl (nF pp))), (qn, .inl (cI, 1001, .inl (nF nn))), (qh, .inl (cL, 1001, .inr (.inl fh))), (qe, .inl (cL, 1001, .inr (.inl fl))), (qf, .inr (2, [w8, w9]))] ++ va_pl L (gE cO G)) → va_S A s.heap H locs → lv_has ls 4 [(0, .ref qp)] → W p l e (headSpec w_Parser_parseLinks { frames := 12, cells := (kcc X P0), slots := (kss X P0), locals := 760 }).room s m args below meth c H locs (kcc X P0) (kss X P0) Q (F0 m 52 ls [.int (nI 0)])) (kz : ∀ (a9 : Nat) (w8 w9 : Value) (L : List Nat) (G : PG) (H : Heap) (locs : List Loc) (ls : Array Slot), X.1 13 = 0 → (a9, w8, w9) = (X.1 12, v0, v1) → gL L G → REP t0 qc qna qdf ft tv fh fl pp nn mm G X c0 → PBd ft tv nv T fk pp nn fh fl X → X.1 15 = P0.1 15 → va_P (dC, dI) cl ([(qp, .inr (3, [.ref qc, .ref qt, .ref qf, .int (nI a9)])), (qt, .inr (1, [w0, w1, .ref qk, .ref ql, .ref qn, .ref qh, .ref qe])), (qk, .inl (cI, 1001, .inl fk)), (ql, .inl (cI, 1001, .inl (nF pp))), (qn, .inl (cI, 1001, .inl (nF nn))), (qh, .inl (cL, 1001, .inr (.inl fh))), (qe, .inl (cL, 1001, .inr (.inl fl))), (qf, .inr (2, [w8, w9]))] ++ va_pl L (gE cO G)) H → va_D A ([(qp, .inr (3, [.ref qc, .ref qt, .ref qf, .int (nI a9)])), (qt, .inr (1, [w0, w1, .ref qk, .ref ql, .ref qn, .ref qh, .ref qe])), (qk, .inl (cI, 1001, .inl fk)), (ql, .inl (cI, 1001, .inl (nF pp))), (qn, .inl (cI, 1001, .inl (nF nn))), (qh, .inl (cL, 1001, .inr (.inl fh))), (qe, .inl (cL, 1001, .inr (.inl fl))), (qf, .inr (2, [w8, w9]))] ++ va_pl L (gE cO G)) → va_S A s.heap H locs → lv_has ls 4 [(0, .ref qp)] → W p l e (headSpec w_Parser_parseLinks { frames := 12, cells := (kcc X P0), slots := (kss X P0), locals := 760 }).room s m args below meth c H locs (kcc X P0) (kss X P0) Q (F0 m 52 ls [.int (nI 1)])) :
    ∀ (k : Nat) (n : Nat) (P : PS) (L : List Nat) (G : PG) (H : Heap) (locs : List Loc) (ls : Array Slot), 1000 < n + k → 3 * n ≤ P.1 12 → P0.1 12 ≤ P.1 12 → gL L G → PBd ft tv nv T fk pp nn fh fl P → REQ t0 qc qna qdf ft tv fh fl pp nn mm G P c0 p0 → mm = P.1 15 → P.2.2.1 23 (P.1 15 - 1) < P.1 24 → P.1 15 = P0.1 15 → X = sp_sign tv (nI 59) (sp_sign tv (nI 41) (pt_loop ft tv nv (1002 - n) P)) → va_P (dC, dI) cl ([(qp, .inr (3, [.ref qc, .ref qt, .ref qf, .int (nI (P.1 12))])), (qt, .inr (1, [w0, w1, .ref qk, .ref ql, .ref qn, .ref qh, .ref qe])), (qk, .inl (cI, 1001, .inl fk)), (ql, .inl (cI, 1001, .inl (nF pp))), (qn, .inl (cI, 1001, .inl (nF nn))), (qh, .inl (cL, 1001, .inr (.inl fh))), (qe, .inl (cL, 1001, .inr (.inl fl))), (qf, .inr (2, [v0, v1]))] ++ va_pl L (gE cO G)) H → va_D A ([(qp, .inr (3, [.ref qc, .ref qt, .ref qf, .int (nI (P.1 12))])), (qt, .inr (1, [w0, w1, .ref qk, .ref ql, .ref qn, .ref qh, .ref qe])), (qk, .inl (cI, 1001, .inl fk)), (ql, .inl (cI, 1001, .inl (nF pp))), (qn, .inl (cI, 1001, .inl (nF nn))), (qh, .inl (cL, 1001, .inr (.inl fh))), (qe, .inl (cL, 1001, .inr (.inl fl))), (qf, .inr (2, [v0, v1]))] ++ va_pl L (gE cO G)) → va_S A s.heap H locs → lv_has ls 4 [(0, .ref qp), (1, .ref c0), (2, .ref p0), (3, .int (nI n))] → W p l e (headSpec w_Parser_parseLinks { frames := 12, cells := (kcc X P0), slots := (kss X P0), locals := 760 }).room s m args below meth c H locs (4 * (P.1 12 - P0.1 12)) (700 * (P.1 12 - P0.1 12)) Q (F0 m 2 ls []) := by
  intro k
  induction k with
  | zero =>
    intro n P L G H locs ls hk9 hn h0 hL Bd hR hmm hcq e15 hX hP hD hS hl
    exfalso; have q9 := Bd.l3; omega
  | succ k ih =>
    intro n P L G H locs ls hk9 hn h0 hL Bd hR hmm hcq e15 hX hP hD hS hl
    have hb3 := Bd.l3
    refine lv_iload_n hx hb d_Parser_parseLinks_2 rfl (lv_at hl 3 rfl) ?_
    refine lv_sipush (v := nI 1000) hx hb d_Parser_parseLinks_3 (by decide) ?_
    refine nv_icmp_ge (tgt := 59) hx hb (by omega) (by omega) d_Parser_parseLinks_6 (by decide) (fun c_1 => ?_) (fun c_1 => ?_)
    · exfalso; have q9 := Bd.l3; omega
    · refine lv_aload_n hx hb d_Parser_parseLinks_9 rfl (lv_at hl 0 rfl) ?_
      refine lv_aload_n hx hb d_Parser_parseLinks_10 rfl (lv_at hl 1 rfl) ?_
      refine lv_aload_n hx hb d_Parser_parseLinks_11 rfl (lv_at hl 2 rfl) ?_
      obtain ⟨ad, tg, hRX, hc0, hp0⟩ := hR
      obtain ⟨⟨k6, kp, ki, kq⟩, l1, l2, l3⟩ := hRX.cur Bd.h15.1 hc0
      have h24 : 1 ≤ P.1 24 := by omega
      obtain ⟨k5, kl, l4⟩ := hRX.curq h24 hp0
      have hb3 := Bd.l3
      have hcz := ci_z Bd
      have h8 := Bd.h15
      have hX := hX.trans (show sp_sign tv (nI 59) (sp_sign tv (nI 41) (pt_loop ft tv nv (1002 - n) P)) = sp_sign tv (nI 59) (sp_sign tv (nI 41) (pt_loop ft tv nv ((1001 - n) + 1) P)) by rw [show 1002 - n = (1001 - n) + 1 by omega])
      have hroom := pt_room (ft := ft) (tv := tv) (nv := nv) (f := 1001 - n) Bd.1 h0
      rw [← hX] at hroom
      refine wd_i (cx := [(qp, .inr (3, [.ref qc, .ref qt, .ref qf, .int (nI (P.1 12))])), (qt, .inr (1, [w0, w1, .ref qk, .ref ql, .ref qn, .ref qh, .ref qe])), (qk, .inl (cI, 1001, .inl fk)), (ql, .inl (cI, 1001, .inl (nF pp))), (qn, .inl (cI, 1001, .inl (nF nn))), (qh, .inl (cL, 1001, .inr (.inl fh))), (qe, .inl (cL, 1001, .inr (.inl fl))), (qf, .inr (2, [v0, v1]))]) (wr := []) (pl := va_pl L (gE cO G)) (va_runV (As := [.ref c0, .ref p0]) (rest := []) ⟨hx, hb, hml, hown, hts⟩ (p_Parser_parseLink l dC dI cB cI cL cZ cC cO qp qc qt qf qk ql qn qh qe fk pp nn fh fl (G := G) c0 p0 (P.1 12) (ad 2 (P.1 15 - 1)) (ad 3 (P.1 15 - 1)) (ad 11 (P.1 24 - 1)) (rga (ad 5) (P.2.2.1 17 (P.1 15 - 1)) (P.1 18)) (rga (ad 7) (P.2.2.1 36 (P.1 15 - 1)) (P.1 37)) (rga (ad 12) (P.2.2.1 26 (P.1 24 - 1)) (P.1 27)) v0 v1 t0 _ hL Bd.l3 hk3 hk10 k6 kp ki k5 kl l1 l2 l4 (hRX.1.ne (show P.1 24 - 1 < cno P 11 from (by show P.1 24 - 1 < P.1 24; omega)) (show P.1 15 - 1 < cno P 3 from (by show P.1 15 - 1 < P.1 15; omega)) (by omega)) (by rw [rga_len]; omega) (by rw [rga_len]; omega) (by rw [rga_len]; omega) (hRX.wp (Nat.le_refl _)) (hRX.wi (Nat.le_refl _))) (cwV 2 hts (good_V k_603 k_605 s_Parser_parseLink k_4 k_606) rfl rfl rfl (by decide +kernel) ⟨Nat.le_of_ble_eq_true rfl, Nat.le_of_ble_eq_true rfl⟩) (wd_preV (ci := 3) (r := (R_Parser, F_Parser, 4)) hK hP hD hS hA hF hE [0, 1, 2, 3, 4, 5, 6, 7] (by decide) rfl rfl ⟨0, rfl⟩) rfl rfl hl.1 rfl (lv_room (Nat.le_of_ble_eq_true rfl)) d_Parser_parseLinks_12 ⟨hroom.1, hroom.2⟩) hP hD hS hA [0, 1, 2, 3, 4, 5, 6, 7] [] rfl rfl (by decide) (by decide) (fun r_3 u H locs w_2 hP hD hS => ?_)
      have hP : va_P (dC, dI) cl ([(qp, .inr (3, [.ref qc, .ref qt, .ref qf, .int (nI u.1.1)])), (qt, .inr (1, [w0, w1, .ref qk, .ref ql, .ref qn, .ref qh, .ref qe])), (qk, .inl (cI, 1001, .inl fk)), (ql, .inl (cI, 1001, .inl (nF pp))), (qn, .inl (cI, 1001, .inl (nF nn))), (qh, .inl (cL, 1001, .inr (.inl fh))), (qe, .inl (cL, 1001, .inr (.inl fl))), (qf, .inr (2, [u.1.2.1, u.1.2.2]))] ++ va_pl u.2.1 (gE cO u.2.2)) H := hP
      have hD : va_D A ([(qp, .inr (3, [.ref qc, .ref qt, .ref qf, .int (nI u.1.1)])), (qt, .inr (1, [w0, w1, .ref qk, .ref ql, .ref qn, .ref qh, .ref qe])), (qk, .inl (cI, 1001, .inl fk)), (ql, .inl (cI, 1001, .inl (nF pp))), (qn, .inl (cI, 1001, .inl (nF nn))), (qh, .inl (cL, 1001, .inr (.inl fh))), (qe, .inl (cL, 1001, .inr (.inl fl))), (qf, .inr (2, [u.1.2.1, u.1.2.2]))] ++ va_pl u.2.1 (gE cO u.2.2)) := hD
      obtain ⟨r_3e, hu, hfr, hp⟩ := w_2
      subst r_3e
      rcases link_step (v0 := v0) (v1 := v1) Bd hRX hmm hcq rfl rfl hu hfr hp with ⟨z, pt, ue, ⟨ad', tg', rx, rc, rq⟩, BZ, lt, z15, zcq⟩ | ⟨z, pf, ue, rb⟩
      · rw [pt_u Bd.1] at hX
        rw [ue] at hP hD
        have rep : REQ t0 qc qna qdf ft tv fh fl pp nn mm u.2.2 (sp_link ft tv nv P) c0 p0 := ⟨ad', tg', rx, rc.trans hc0, rq.trans hp0⟩
        have gl := hfr.1
        clear rx rc rq
        generalize hZ : sp_link ft tv nv P = Z at hX z ue rep BZ lt z15 zcq hP hD
        have zl3 := BZ.l3
        have hP : va_P (dC, dI) cl ([(qp, .inr (3, [.ref qc, .ref qt, .ref qf, .int (nI (Z.1 12))])), (qt, .inr (1, [w0, w1, .ref qk, .ref ql, .ref qn, .ref qh, .ref qe])), (qk, .inl (cI, 1001, .inl fk)), (ql, .inl (cI, 1001, .inl (nF pp))), (qn, .inl (cI, 1001, .inl (nF nn))), (qh, .inl (cL, 1001, .inr (.inl fh))), (qe, .inl (cL, 1001, .inr (.inl fl))), (qf, .inr (2, [v0, v1]))] ++ va_pl u.2.1 (gE cO u.2.2)) H := hP
        have hD : va_D A ([(qp, .inr (3, [.ref qc, .ref qt, .ref qf, .int (nI (Z.1 12))])), (qt, .inr (1, [w0, w1, .ref qk, .ref ql, .ref qn, .ref qh, .ref qe])), (qk, .inl (cI, 1001, .inl fk)), (ql, .inl (cI, 1001, .inl (nF pp))), (qn, .inl (cI, 1001, .inl (nF nn))), (qh, .inl (cL, 1001, .inr (.inl fh))), (qe, .inl (cL, 1001, .inr (.inl fl))), (qf, .inr (2, [v0, v1]))] ++ va_pl u.2.1 (gE cO u.2.2)) := hD
        refine nv_bif_ne (tgt := 20) hx hb d_Parser_parseLinks_15 (by decide) (fun c_4 => ?_) (fun c_4 => ?_)
        · refine lv_aload_n hx hb d_Parser_parseLinks_20 rfl (lv_at hl 0 rfl) ?_
          refine lv_bipush (v := nI 44) hx hb d_Parser_parseLinks_21 (by decide) ?_
          refine we_i (cx := [(qp, .inr (3, [.ref qc, .ref qt, .ref qf, .int (nI (Z.1 12))])), (qt, .inr (1, [w0, w1, .ref qk, .ref ql, .ref qn, .ref qh, .ref qe])), (qk, .inl (cI, 1001, .inl fk))]) (wr := [(ql, .inl (cI, 1001, .inl (nF pp))), (qn, .inl (cI, 1001, .inl (nF nn))), (qh, .inl (cL, 1001, .inr (.inl fh))), (qe, .inl (cL, 1001, .inr (.inl fl))), (qf, .inr (2, [v0, v1]))]) (pl := va_pl u.2.1 (gE cO u.2.2)) (va_runV (As := [.int (nI 44)]) (rest := []) ⟨hx, hb, hml, hown, hts⟩ (c_Parser_takes l dC dI cB cI cL cZ cC cO qp qc qt qf qk ql fk (Z.1 12) (nI 44) _ (by omega)) (cwV 1 hts (good_V k_563 k_565 s_Parser_takes k_4 k_566) rfl rfl rfl (by decide +kernel) ⟨Nat.le_of_ble_eq_true rfl, Nat.le_of_ble_eq_true rfl⟩) (wc_preV (k0 := 0) (ci := 3) (r := (R_Parser, F_Parser, 4)) hK hP hD hS hA hF [0, 1, 2] (by decide) rfl rfl rfl) rfl rfl hl.1 rfl (lv_room (Nat.le_of_ble_eq_true rfl)) d_Parser_parseLinks_23 ⟨hroom.1, hroom.2⟩) hP hD hS hA [0, 1, 2] [3, 4, 5, 6, 7] rfl rfl (by decide) (by decide) (fun r_8 u_6 H locs w_7 hP hD hS => ?_)
          have hP : va_P (dC, dI) cl ([(ql, .inl (cI, 1001, .inl (nF pp))), (qn, .inl (cI, 1001, .inl (nF nn))), (qh, .inl (cL, 1001, .inr (.inl fh))), (qe, .inl (cL, 1001, .inr (.inl fl))), (qf, .inr (2, [v0, v1])), (qp, .inr (3, [.ref qc, .ref qt, .ref qf, .int (nI u_6)])), (qt, .inr (1, [w0, w1, .ref qk, .ref ql, .ref qn, .ref qh, .ref qe])), (qk, .inl (cI, 1001, .inl fk))] ++ va_pl u.2.1 (gE cO u.2.2)) H := hP
          have hD : va_D A ([(ql, .inl (cI, 1001, .inl (nF pp))), (qn, .inl (cI, 1001, .inl (nF nn))), (qh, .inl (cL, 1001, .inr (.inl fh))), (qe, .inl (cL, 1001, .inr (.inl fl))), (qf, .inr (2, [v0, v1])), (qp, .inr (3, [.ref qc, .ref qt, .ref qf, .int (nI u_6)])), (qt, .inr (1, [w0, w1, .ref qk, .ref ql, .ref qn, .ref qh, .ref qe])), (qk, .inl (cI, 1001, .inl fk))] ++ va_pl u.2.1 (gE cO u.2.2)) := hD
          obtain ⟨r_8e, u_6e⟩ := w_7
          subst r_8e
          by_cases tk_5 : wt_ok fk (Z.1 12) (nI 44) = true
          · rw [if_pos tk_5] at u_6e
            subst u_6e
            have hb_tk_5 : (Z.1 12) < 1000 := wt_lt tk_5
            refine nv_bif_ne (tgt := 53) hx hb d_Parser_parseLinks_26 (by decide) (fun c_9 => ?_) (fun c_9 => ?_)
            · refine lv_iinc (v := nI (n + 1)) (lv' := [(3, .int (nI (n + 1))), (0, .ref qp), (1, .ref c0), (2, .ref p0)]) hx hb d_Parser_parseLinks_53 hl (k := 3) rfl (nI_1 _) (by decide) rfl (fun ls hl => ?_)
              refine lv_goto (tgt := 2) hx hb d_Parser_parseLinks_56 (by decide) ?_
              have sg44 : sg tv (nI 44) Z = true := by rw [← tk_5]; exact (BZ.2.1.sg BZ.le (n := 44) (by decide) (by decide)).symm
              have e44 : sp_sign tv (nI 44) Z = sp_go Z := if_pos sg44
              rw [if_pos sg44, ← e44] at hX
              have z44 : (sp_sign tv (nI 44) Z).1 13 = 0 := by rw [e44]; exact BZ.1
              have e12 : (sp_sign tv (nI 44) Z).1 12 = Z.1 12 + 1 := by rw [e44]; exact go12 BZ.1
              rw [← e12] at hP hD
              have ea : (sp_sign tv (nI 44) Z).2 = Z.2 := ar_sign _ _ _
              have e15' : (sp_sign tv (nI 44) Z).1 15 = Z.1 15 := zk_sign (by decide) (by decide) (by decide)
              have e24' : (sp_sign tv (nI 44) Z).1 24 = Z.1 24 := zk_sign (by decide) (by decide) (by decide)
              refine W.widen (k := 4 * ((sp_sign tv (nI 44) Z).1 12 - P0.1 12)) (n := 700 * ((sp_sign tv (nI 44) Z).1 12 - P0.1 12)) (by omega) (by omega) ?_
              exact ih (n + 1) (sp_sign tv (nI 44) Z) _ _ _ _ ls (by omega) (by omega) (by omega) gl (BZ.sgn z44) rep.sgn (by rw [e15']; omega) (by rw [e24', e15', ea]; exact zcq) (by rw [e15']; omega) (by rw [hX, show 1002 - (n + 1) = 1001 - n by omega]) (hP.part [5, 6, 7, 0, 1, 2, 3, 4] rfl) (hD.part [5, 6, 7, 0, 1, 2, 3, 4] (by decide) rfl) hS (lv_sub hl [1, 2, 3, 0] rfl)
            · exact absurd (tk_5.symm.trans c_9) (by decide)
          · have tk_5 : wt_ok fk (Z.1 12) (nI 44) = false := by simpa using tk_5
            rw [if_neg (by rw [tk_5]; decide)] at u_6e
            replace u_6e := u_6e.symm
            subst u_6e
            refine nv_bif_ne (tgt := 53) hx hb d_Parser_parseLinks_26 (by decide) (fun c_10 => ?_) (fun c_10 => ?_)
            · exact absurd (tk_5.symm.trans c_10) (by decide)
            · have sg44 : ¬ sg tv (nI 44) Z = true := by rw [show sg tv (nI 44) Z = false from tk_5.symm ▸ (BZ.2.1.sg BZ.le (n := 44) (by decide) (by decide)).symm]; decide
              rw [if_neg sg44] at hX
              obtain ⟨f1, f2⟩ := fz_sign (v0 := v0) (v1 := v1) BZ.2.1 BZ.1 BZ.le (n := 41) (by decide) (by decide)
              refine lv_aload_n hx hb d_Parser_parseLinks_29 rfl (lv_at hl 0 rfl) ?_
              refine lv_bipush (v := nI 41) hx hb d_Parser_parseLinks_30 (by decide) ?_
              refine we_i (cx := [(qp, .inr (3, [.ref qc, .ref qt, .ref qf, .int (nI (Z.1 12))])), (qt, .inr (1, [w0, w1, .ref qk, .ref ql, .ref qn, .ref qh, .ref qe])), (qk, .inl (cI, 1001, .inl fk)), (ql, .inl (cI, 1001, .inl (nF pp))), (qf, .inr (2, [v0, v1]))]) (wr := [(qn, .inl (cI, 1001, .inl (nF nn))), (qh, .inl (cL, 1001, .inr (.inl fh))), (qe, .inl (cL, 1001, .inr (.inl fl)))]) (pl := va_pl u.2.1 (gE cO u.2.2)) (va_runV (As := [.int (nI 41)]) (rest := []) ⟨hx, hb, hml, hown, hts⟩ (c_Parser_want l dC dI cB cI cL cZ cC cO qp qc qt qf qk ql v0 v1 fk (nF pp) (Z.1 12) (nI 41) _ (by omega)) (cwV 1 hts (good_V k_529 k_531 s_Parser_want k_4 k_532) rfl rfl rfl (by decide +kernel) ⟨Nat.le_of_ble_eq_true rfl, Nat.le_of_ble_eq_true rfl⟩) (wc_preV (k0 := 5) (ci := 3) (r := (R_Parser, F_Parser, 4)) hK hP hD hS hA hF [5, 6, 7, 0, 4] (by decide) rfl rfl rfl) rfl rfl hl.1 rfl (lv_room (Nat.le_of_ble_eq_true rfl)) d_Parser_parseLinks_32 ⟨hroom.1, hroom.2⟩) hP hD hS hA [5, 6, 7, 0, 4] [1, 2, 3] rfl rfl (by decide) (by decide) (fun r_14 u_12 H locs w_13 hP hD hS => ?_)
              have hP : va_P (dC, dI) cl ([(qn, .inl (cI, 1001, .inl (nF nn))), (qh, .inl (cL, 1001, .inr (.inl fh))), (qe, .inl (cL, 1001, .inr (.inl fl))), (qp, .inr (3, [.ref qc, .ref qt, .ref qf, .int (nI u_12.1)])), (qt, .inr (1, [w0, w1, .ref qk, .ref ql, .ref qn, .ref qh, .ref qe])), (qk, .inl (cI, 1001, .inl fk)), (ql, .inl (cI, 1001, .inl (nF pp))), (qf, .inr (2, [u_12.2.1, u_12.2.2]))] ++ va_pl u.2.1 (gE cO u.2.2)) H := hP
              have hD : va_D A ([(qn, .inl (cI, 1001, .inl (nF nn))), (qh, .inl (cL, 1001, .inr (.inl fh))), (qe, .inl (cL, 1001, .inr (.inl fl))), (qp, .inr (3, [.ref qc, .ref qt, .ref qf, .int (nI u_12.1)])), (qt, .inr (1, [w0, w1, .ref qk, .ref ql, .ref qn, .ref qh, .ref qe])), (qk, .inl (cI, 1001, .inl fk)), (ql, .inl (cI, 1001, .inl (nF pp))), (qf, .inr (2, [u_12.2.1, u_12.2.2]))] ++ va_pl u.2.1 (gE cO u.2.2)) := hD
              obtain ⟨r_14e, u_12e⟩ := w_13
              subst r_14e
              by_cases tk_11 : wt_ok fk (Z.1 12) (nI 41) = true
              · rw [wt_T tk_11] at u_12e
                subst u_12e
                have hb_tk_11 : (Z.1 12) < 1000 := wt_lt tk_11
                have hP : va_P (dC, dI) cl ([(qn, .inl (cI, 1001, .inl (nF nn))), (qh, .inl (cL, 1001, .inr (.inl fh))), (qe, .inl (cL, 1001, .inr (.inl fl))), (qp, .inr (3, [.ref qc, .ref qt, .ref qf, .int (nI ((Z.1 12) + 1))])), (qt, .inr (1, [w0, w1, .ref qk, .ref ql, .ref qn, .ref qh, .ref qe])), (qk, .inl (cI, 1001, .inl fk)), (ql, .inl (cI, 1001, .inl (nF pp))), (qf, .inr (2, [v0, v1]))] ++ va_pl u.2.1 (gE cO u.2.2)) H := hP
                have hD : va_D A ([(qn, .inl (cI, 1001, .inl (nF nn))), (qh, .inl (cL, 1001, .inr (.inl fh))), (qe, .inl (cL, 1001, .inr (.inl fl))), (qp, .inr (3, [.ref qc, .ref qt, .ref qf, .int (nI ((Z.1 12) + 1))])), (qt, .inr (1, [w0, w1, .ref qk, .ref ql, .ref qn, .ref qh, .ref qe])), (qk, .inl (cI, 1001, .inl fk)), (ql, .inl (cI, 1001, .inl (nF pp))), (qf, .inr (2, [v0, v1]))] ++ va_pl u.2.1 (gE cO u.2.2)) := hD
                refine nv_bif_eq (tgt := 51) hx hb d_Parser_parseLinks_35 (by decide) (fun c_15 => ?_) (fun c_15 => ?_)
                · exact absurd (tk_11.symm.trans c_15) (by decide)
                · have z41 : (sp_sign tv (nI 41) Z).1 13 = 0 := of_decide_eq_true (f1.r.symm.trans tk_11)
                  have e12 : (sp_sign tv (nI 41) Z).1 12 = Z.1 12 + 1 := by rw [(f2 z41).2.1]; exact go12 BZ.1
                  rw [← e12] at hP hD
                  have BY := BZ.sgn z41
                  have rep := rep.sgn (c := nI 41)
                  have y15 : (sp_sign tv (nI 41) Z).1 15 = Z.1 15 := zk_sign (by decide) (by decide) (by decide)
                  generalize sp_sign tv (nI 41) Z = Y at hX e12 BY rep hP hD y15
                  have yl3 := BY.l3
                  obtain ⟨f3, f4⟩ := fz_sign (v0 := v0) (v1 := v1) BY.2.1 BY.1 BY.le (n := 59) (by decide) (by decide)
                  rw [← hX] at f3 f4
                  have hP : va_P (dC, dI) cl ([(qn, .inl (cI, 1001, .inl (nF nn))), (qh, .inl (cL, 1001, .inr (.inl fh))), (qe, .inl (cL, 1001, .inr (.inl fl))), (qp, .inr (3, [.ref qc, .ref qt, .ref qf, .int (nI (Y.1 12))])), (qt, .inr (1, [w0, w1, .ref qk, .ref ql, .ref qn, .ref qh, .ref qe])), (qk, .inl (cI, 1001, .inl fk)), (ql, .inl (cI, 1001, .inl (nF pp))), (qf, .inr (2, [v0, v1]))] ++ va_pl u.2.1 (gE cO u.2.2)) H := hP
                  have hD : va_D A ([(qn, .inl (cI, 1001, .inl (nF nn))), (qh, .inl (cL, 1001, .inr (.inl fh))), (qe, .inl (cL, 1001, .inr (.inl fl))), (qp, .inr (3, [.ref qc, .ref qt, .ref qf, .int (nI (Y.1 12))])), (qt, .inr (1, [w0, w1, .ref qk, .ref ql, .ref qn, .ref qh, .ref qe])), (qk, .inl (cI, 1001, .inl fk)), (ql, .inl (cI, 1001, .inl (nF pp))), (qf, .inr (2, [v0, v1]))] ++ va_pl u.2.1 (gE cO u.2.2)) := hD
                  refine lv_aload_n hx hb d_Parser_parseLinks_38 rfl (lv_at hl 0 rfl) ?_
                  refine lv_bipush (v := nI 59) hx hb d_Parser_parseLinks_39 (by decide) ?_
                  refine we_i (cx := [(qp, .inr (3, [.ref qc, .ref qt, .ref qf, .int (nI (Y.1 12))])), (qt, .inr (1, [w0, w1, .ref qk, .ref ql, .ref qn, .ref qh, .ref qe])), (qk, .inl (cI, 1001, .inl fk)), (ql, .inl (cI, 1001, .inl (nF pp))), (qf, .inr (2, [v0, v1]))]) (wr := [(qn, .inl (cI, 1001, .inl (nF nn))), (qh, .inl (cL, 1001, .inr (.inl fh))), (qe, .inl (cL, 1001, .inr (.inl fl)))]) (pl := va_pl u.2.1 (gE cO u.2.2)) (va_runV (As := [.int (nI 59)]) (rest := []) ⟨hx, hb, hml, hown, hts⟩ (c_Parser_want l dC dI cB cI cL cZ cC cO qp qc qt qf qk ql v0 v1 fk (nF pp) (Y.1 12) (nI 59) _ (by omega)) (cwV 1 hts (good_V k_529 k_531 s_Parser_want k_4 k_532) rfl rfl rfl (by decide +kernel) ⟨Nat.le_of_ble_eq_true rfl, Nat.le_of_ble_eq_true rfl⟩) (wc_preV (k0 := 3) (ci := 3) (r := (R_Parser, F_Parser, 4)) hK hP hD hS hA hF [3, 4, 5, 6, 7] (by decide) rfl rfl rfl) rfl rfl hl.1 rfl (lv_room (Nat.le_of_ble_eq_true rfl)) d_Parser_parseLinks_41 ⟨hroom.1, hroom.2⟩) hP hD hS hA [3, 4, 5, 6, 7] [0, 1, 2] rfl rfl (by decide) (by decide) (fun r_19 u_17 H locs w_18 hP hD hS => ?_)
                  have hP : va_P (dC, dI) cl ([(qn, .inl (cI, 1001, .inl (nF nn))), (qh, .inl (cL, 1001, .inr (.inl fh))), (qe, .inl (cL, 1001, .inr (.inl fl))), (qp, .inr (3, [.ref qc, .ref qt, .ref qf, .int (nI u_17.1)])), (qt, .inr (1, [w0, w1, .ref qk, .ref ql, .ref qn, .ref qh, .ref qe])), (qk, .inl (cI, 1001, .inl fk)), (ql, .inl (cI, 1001, .inl (nF pp))), (qf, .inr (2, [u_17.2.1, u_17.2.2]))] ++ va_pl u.2.1 (gE cO u.2.2)) H := hP
                  have hD : va_D A ([(qn, .inl (cI, 1001, .inl (nF nn))), (qh, .inl (cL, 1001, .inr (.inl fh))), (qe, .inl (cL, 1001, .inr (.inl fl))), (qp, .inr (3, [.ref qc, .ref qt, .ref qf, .int (nI u_17.1)])), (qt, .inr (1, [w0, w1, .ref qk, .ref ql, .ref qn, .ref qh, .ref qe])), (qk, .inl (cI, 1001, .inl fk)), (ql, .inl (cI, 1001, .inl (nF pp))), (qf, .inr (2, [u_17.2.1, u_17.2.2]))] ++ va_pl u.2.1 (gE cO u.2.2)) := hD
                  obtain ⟨r_19e, u_17e⟩ := w_18
                  subst r_19e
                  by_cases tk_16 : wt_ok fk (Y.1 12) (nI 59) = true
                  · rw [wt_T tk_16] at u_17e
                    subst u_17e
                    have hb_tk_16 : (Y.1 12) < 1000 := wt_lt tk_16
                    have hP : va_P (dC, dI) cl ([(qn, .inl (cI, 1001, .inl (nF nn))), (qh, .inl (cL, 1001, .inr (.inl fh))), (qe, .inl (cL, 1001, .inr (.inl fl))), (qp, .inr (3, [.ref qc, .ref qt, .ref qf, .int (nI ((Y.1 12) + 1))])), (qt, .inr (1, [w0, w1, .ref qk, .ref ql, .ref qn, .ref qh, .ref qe])), (qk, .inl (cI, 1001, .inl fk)), (ql, .inl (cI, 1001, .inl (nF pp))), (qf, .inr (2, [v0, v1]))] ++ va_pl u.2.1 (gE cO u.2.2)) H := hP
                    have hD : va_D A ([(qn, .inl (cI, 1001, .inl (nF nn))), (qh, .inl (cL, 1001, .inr (.inl fh))), (qe, .inl (cL, 1001, .inr (.inl fl))), (qp, .inr (3, [.ref qc, .ref qt, .ref qf, .int (nI ((Y.1 12) + 1))])), (qt, .inr (1, [w0, w1, .ref qk, .ref ql, .ref qn, .ref qh, .ref qe])), (qk, .inl (cI, 1001, .inl fk)), (ql, .inl (cI, 1001, .inl (nF pp))), (qf, .inr (2, [v0, v1]))] ++ va_pl u.2.1 (gE cO u.2.2)) := hD
                    refine nv_bif_eq (tgt := 51) hx hb d_Parser_parseLinks_44 (by decide) (fun c_20 => ?_) (fun c_20 => ?_)
                    · exact absurd (tk_16.symm.trans c_20) (by decide)
                    · refine lv_iconst (v := nI 1) hx hb d_Parser_parseLinks_47 (by decide) ?_
                      refine lv_goto (tgt := 52) hx hb d_Parser_parseLinks_48 (by decide) ?_
                      have z59 : X.1 13 = 0 := of_decide_eq_true (f3.r.symm.trans tk_16)
                      have ue2 := (f3.t z59).2
                      rw [wt_T tk_16] at ue2
                      have x15 : X.1 15 = Y.1 15 := by rw [hX]; exact zk_sign (by decide) (by decide) (by decide)
                      refine W.widen (k := kcc X P0) (n := kss X P0) hroom.1 hroom.2 ?_
                      exact kz ((Y.1 12) + 1) (v0) (v1) u.2.1 u.2.2 _ _ ls z59 ue2 gl (by rw [hX]; exact rep.rep.sgn) (by rw [hX]; exact BY.sgn (by rw [← hX]; exact z59)) (by omega) (hP.part [3, 4, 5, 6, 0, 1, 2, 7] rfl) (hD.part [3, 4, 5, 6, 0, 1, 2, 7] (by decide) rfl) hS (lv_sub hl [0] rfl)
                  · have tk_16 : wt_ok fk (Y.1 12) (nI 59) = false := by simpa using tk_16
                    rw [wt_F tk_16] at u_17e
                    subst u_17e
                    have hP : va_P (dC, dI) cl ([(qn, .inl (cI, 1001, .inl (nF nn))), (qh, .inl (cL, 1001, .inr (.inl fh))), (qe, .inl (cL, 1001, .inr (.inl fl))), (qp, .inr (3, [.ref qc, .ref qt, .ref qf, .int (nI (Y.1 12))])), (qt, .inr (1, [w0, w1, .ref qk, .ref ql, .ref qn, .ref qh, .ref qe])), (qk, .inl (cI, 1001, .inl fk)), (ql, .inl (cI, 1001, .inl (nF pp))), (qf, .inr (2, [.int (if fk (Y.1 12) = nI 2 then nI 2 else nI 1), .int (nI (pp (Y.1 12)))]))] ++ va_pl u.2.1 (gE cO u.2.2)) H := hP
                    have hD : va_D A ([(qn, .inl (cI, 1001, .inl (nF nn))), (qh, .inl (cL, 1001, .inr (.inl fh))), (qe, .inl (cL, 1001, .inr (.inl fl))), (qp, .inr (3, [.ref qc, .ref qt, .ref qf, .int (nI (Y.1 12))])), (qt, .inr (1, [w0, w1, .ref qk, .ref ql, .ref qn, .ref qh, .ref qe])), (qk, .inl (cI, 1001, .inl fk)), (ql, .inl (cI, 1001, .inl (nF pp))), (qf, .inr (2, [.int (if fk (Y.1 12) = nI 2 then nI 2 else nI 1), .int (nI (pp (Y.1 12)))]))] ++ va_pl u.2.1 (gE cO u.2.2)) := hD
                    refine nv_bif_eq (tgt := 51) hx hb d_Parser_parseLinks_44 (by decide) (fun c_21 => ?_) (fun c_21 => ?_)
                    · refine lv_iconst (v := nI 0) hx hb d_Parser_parseLinks_51 (by decide) ?_
                      have z59 : ¬ X.1 13 = 0 := of_decide_eq_false (f3.r.symm.trans tk_16)
                      have ue := (f3.f z59).2
                      rw [wt_F tk_16] at ue
                      have hbad : ¬ X.1 13 = 0 ∧ ftv X = ftv X := ⟨z59, rfl⟩
                      have rb := rep.rep.rb (by have q9 := BY.h15; omega)
                      refine W.widen (k := kcc X P0) (n := kss X P0) hroom.1 hroom.2 ?_
                      exact ky (Y.1 12) (.int (if fk (Y.1 12) = nI 2 then nI 2 else nI 1)) (.int (nI (pp (Y.1 12)))) u.2.1 u.2.2 _ _ ls hbad.1 (ue.trans hbad.2.symm) gl rb (hP.part [3, 4, 5, 6, 0, 1, 2, 7] rfl) (hD.part [3, 4, 5, 6, 0, 1, 2, 7] (by decide) rfl) hS (lv_sub hl [0] rfl)
                    · exact absurd (tk_16.symm.trans c_21) (by decide)
              · have tk_11 : wt_ok fk (Z.1 12) (nI 41) = false := by simpa using tk_11
                rw [wt_F tk_11] at u_12e
                subst u_12e
                have hP : va_P (dC, dI) cl ([(qn, .inl (cI, 1001, .inl (nF nn))), (qh, .inl (cL, 1001, .inr (.inl fh))), (qe, .inl (cL, 1001, .inr (.inl fl))), (qp, .inr (3, [.ref qc, .ref qt, .ref qf, .int (nI (Z.1 12))])), (qt, .inr (1, [w0, w1, .ref qk, .ref ql, .ref qn, .ref qh, .ref qe])), (qk, .inl (cI, 1001, .inl fk)), (ql, .inl (cI, 1001, .inl (nF pp))), (qf, .inr (2, [.int (if fk (Z.1 12) = nI 2 then nI 2 else nI 1), .int (nI (pp (Z.1 12)))]))] ++ va_pl u.2.1 (gE cO u.2.2)) H := hP
                have hD : va_D A ([(qn, .inl (cI, 1001, .inl (nF nn))), (qh, .inl (cL, 1001, .inr (.inl fh))), (qe, .inl (cL, 1001, .inr (.inl fl))), (qp, .inr (3, [.ref qc, .ref qt, .ref qf, .int (nI (Z.1 12))])), (qt, .inr (1, [w0, w1, .ref qk, .ref ql, .ref qn, .ref qh, .ref qe])), (qk, .inl (cI, 1001, .inl fk)), (ql, .inl (cI, 1001, .inl (nF pp))), (qf, .inr (2, [.int (if fk (Z.1 12) = nI 2 then nI 2 else nI 1), .int (nI (pp (Z.1 12)))]))] ++ va_pl u.2.1 (gE cO u.2.2)) := hD
                refine nv_bif_eq (tgt := 51) hx hb d_Parser_parseLinks_35 (by decide) (fun c_22 => ?_) (fun c_22 => ?_)
                · refine lv_iconst (v := nI 0) hx hb d_Parser_parseLinks_51 (by decide) ?_
                  have z41 : ¬ (sp_sign tv (nI 41) Z).1 13 = 0 := of_decide_eq_false (f1.r.symm.trans tk_11)
                  have ue := (f1.f z41).2
                  rw [wt_F tk_11] at ue
                  have s9 := stk_sign (tv := tv) (c := nI 59) z41
                  rw [← hX] at s9
                  have hbad : ¬ X.1 13 = 0 ∧ ftv X = ftv (sp_sign tv (nI 41) Z) := ⟨by rw [s9.1]; exact z41, by unfold ftv; rw [s9.1, s9.2]⟩
                  have rb := rep.rep.rb (by have q9 := BZ.h15; omega)
                  refine W.widen (k := kcc X P0) (n := kss X P0) hroom.1 hroom.2 ?_
                  exact ky (Z.1 12) (.int (if fk (Z.1 12) = nI 2 then nI 2 else nI 1)) (.int (nI (pp (Z.1 12)))) u.2.1 u.2.2 _ _ ls hbad.1 (ue.trans hbad.2.symm) gl rb (hP.part [3, 4, 5, 6, 0, 1, 2, 7] rfl) (hD.part [3, 4, 5, 6, 0, 1, 2, 7] (by decide) rfl) hS (lv_sub hl [0] rfl)
                · exact absurd (tk_11.symm.trans c_22) (by decide)
        · exact absurd (pt.symm.trans c_4) (by decide)
      · have hbad := pt_bad (f := 1001 - n) Bd.1 z
        rw [← hX] at hbad
        refine nv_bif_ne (tgt := 20) hx hb d_Parser_parseLinks_15 (by decide) (fun c_23 => ?_) (fun c_23 => ?_)
        · exact absurd (pf.symm.trans c_23) (by decide)
        · refine lv_iconst (v := nI 0) hx hb d_Parser_parseLinks_18 (by decide) ?_
          have gl := hfr.1
          refine W.widen (k := kcc X P0) (n := kss X P0) hroom.1 hroom.2 ?_
          exact kx (u.1.1) (u.1.2.1) (u.1.2.2) u.2.1 u.2.2 _ _ ls hbad.1 (ue.trans hbad.2.symm) gl rb hP hD hS (lv_sub hl [0] rfl)
set_option maxHeartbeats 4000000 in
set_option maxRecDepth 100000 in
/-- parseLinks(chip, part) -/
theorem p_Parser_parseLinks (l : Launch) (dC : Nat → ClassId) (dI : Nat → Nat → Nat) (cB cI cL cZ cC cO : ClassId) (qp qc qt qf qk ql qn qh qe : Nat) {w0 w1 : Value} (fk : Nat → Int32) (pp nn : Nat → Nat) (fh fl : Nat → Int64) {L : List Nat} {G : PG} (qna qdf T : Nat) (ft tv : Nat → Int32) (nv : Nat → Nat) (mm c0 p0 : Nat) (X P : PS) (v0 v1 : Value) (t0 sz : Nat) (hX : X = sp_sign tv (nI 59) (sp_sign tv (nI 41) (pt_loop ft tv nv 1002 P))) (hL : gL L G) (hk3 : ¬ fk 1000 = nI 3) (hnn : ∀ t, nn t ≤ 99) (hk10 : ¬ (fk 1000 = nI 10 ∨ fk 1000 = nI 11)) (Bd : PBd ft tv nv T fk pp nn fh fl P) (hR : REQ t0 qc qna qdf ft tv fh fl pp nn mm G P c0 p0) (hmm : mm = P.1 15) (hcq : P.2.2.1 23 (P.1 15 - 1) < P.1 24) : Met l y_Parser_parseLinks w_Parser_parseLinks ({ frames := 12, cells := (kcc X P), slots := (kss X P), locals := 760 }) (va_Pc [.ref qp, .ref c0, .ref p0] (wB2 (dC, dI) cl [(cB, .byte), (cI, .int), (cL, .long), (cZ, .boolean), (cC, .char), (cO, .object "java/lang/Object")] sz t0 ([(qp, .inr (3, [.ref qc, .ref qt, .ref qf, .int (nI (P.1 12))])), (qt, .inr (1, [w0, w1, .ref qk, .ref ql, .ref qn, .ref qh, .ref qe])), (qk, .inl (cI, 1001, .inl fk)), (ql, .inl (cI, 1001, .inl (nF pp))), (qn, .inl (cI, 1001, .inl (nF nn))), (qh, .inl (cL, 1001, .inr (.inl fh))), (qe, .inl (cL, 1001, .inr (.inl fl))), (qf, .inr (2, [v0, v1]))] ++ va_pl L (gE cO G)))) (va_Qi (fun (r : Int32) (u : (Nat × Value × Value) × List Nat × PG) => r = bI (decide (X.1 13 = 0)) ∧ gL u.2.1 u.2.2 ∧ ((X.1 13 = 0 ∧ u.1 = (X.1 12, v0, v1) ∧ REP t0 qc qna qdf ft tv fh fl pp nn mm u.2.2 X c0 ∧ PBd ft tv nv T fk pp nn fh fl X ∧ X.1 15 = P.1 15) ∨ (¬ X.1 13 = 0 ∧ u.1.2 = ftv X ∧ RB t0 qc qna qdf u.2.2))) (fun u t => wA (dC, dI) cl [(cB, .byte), (cI, .int), (cL, .long), (cZ, .boolean), (cC, .char), (cO, .object "java/lang/Object")] (va_A ([(qp, .inr (3, [.ref qc, .ref qt, .ref qf, .int (nI (P.1 12))])), (qt, .inr (1, [w0, w1, .ref qk, .ref ql, .ref qn, .ref qh, .ref qe])), (qk, .inl (cI, 1001, .inl fk)), (ql, .inl (cI, 1001, .inl (nF pp))), (qn, .inl (cI, 1001, .inl (nF nn))), (qh, .inl (cL, 1001, .inr (.inl fh))), (qe, .inl (cL, 1001, .inr (.inl fl))), (qf, .inr (2, [v0, v1]))] ++ va_pl L (gE cO G)) sz) ([(qp, .inr (3, [.ref qc, .ref qt, .ref qf, .int (nI u.1.1)])), (qt, .inr (1, [w0, w1, .ref qk, .ref ql, .ref qn, .ref qh, .ref qe])), (qk, .inl (cI, 1001, .inl fk)), (ql, .inl (cI, 1001, .inl (nF pp))), (qn, .inl (cI, 1001, .inl (nF nn))), (qh, .inl (cL, 1001, .inr (.inl fh))), (qe, .inl (cL, 1001, .inr (.inl fl))), (qf, .inr (2, [u.1.2.1, u.1.2.2]))] ++ va_pl u.2.1 (gE cO u.2.2)) t) (va_A ([(qp, .inr (3, [.ref qc, .ref qt, .ref qf, .int (nI (P.1 12))])), (qt, .inr (1, [w0, w1, .ref qk, .ref ql, .ref qn, .ref qh, .ref qe])), (qk, .inl (cI, 1001, .inl fk)), (ql, .inl (cI, 1001, .inl (nF pp))), (qn, .inl (cI, 1001, .inl (nF nn))), (qh, .inl (cL, 1001, .inr (.inl fh))), (qe, .inl (cL, 1001, .inr (.inl fl))), (qf, .inr (2, [v0, v1]))] ++ va_pl L (gE cO G)) sz)) (kcc X P) (kss X P) (va_A ([(qp, .inr (3, [.ref qc, .ref qt, .ref qf, .int (nI (P.1 12))])), (qt, .inr (1, [w0, w1, .ref qk, .ref ql, .ref qn, .ref qh, .ref qe])), (qk, .inl (cI, 1001, .inl fk)), (ql, .inl (cI, 1001, .inl (nF pp))), (qn, .inl (cI, 1001, .inl (nF nn))), (qh, .inl (cL, 1001, .inr (.inl fh))), (qe, .inl (cL, 1001, .inr (.inl fl))), (qf, .inr (2, [v0, v1]))] ++ va_pl L (gE cO G)) sz) := by
  refine Met.ofW (cc := b_Parser_parseLinks) (maxL := 4) (ret := (some ClassFile.FieldType.boolean)) (by decide) rfl ?_
  intro p e s m args below meth c s₁ B hml hv
  obtain ⟨rfl, ⟨hsz, hP, hK, hD0, hF⟩, hE⟩ := hv
  have hx := B.exec
  have hb := B.bytes
  have hr := B.returns
  have hts := atoms_spec (ws := w_Parser_parseLinks) B.pre
  have hts : ∀ w ∈ tb, w.before _ s = true := fun w h => hts w (List.mem_cons_of_mem _ h)
  have hown : s.vm.findClass R_Parser = some m.cls := findClass_of_methodNamed B.named
  have hlocks := B.notSynchronized
  subst hsz
  have hD := hD0.self (sz := s.heap.size)
  generalize hAe : va_A ([(qp, .inr (3, [.ref qc, .ref qt, .ref qf, .int (nI (P.1 12))])), (qt, .inr (1, [w0, w1, .ref qk, .ref ql, .ref qn, .ref qh, .ref qe])), (qk, .inl (cI, 1001, .inl fk)), (ql, .inl (cI, 1001, .inl (nF pp))), (qn, .inl (cI, 1001, .inl (nF nn))), (qh, .inl (cL, 1001, .inr (.inl fh))), (qe, .inl (cL, 1001, .inr (.inl fl))), (qf, .inr (2, [v0, v1]))] ++ va_pl L (gE cO G)) s.heap.size = A at hD hF hE ⊢
  have hA : ∀ q : Nat, s.heap.size ≤ q → A q := fun q h => by rw [← hAe]; exact Or.inr h
  have hS : va_S A s.heap s.heap [] := va_S.rf
  have hP : va_P (dC, dI) cl ([(qp, .inr (3, [.ref qc, .ref qt, .ref qf, .int (nI (P.1 12))])), (qt, .inr (1, [w0, w1, .ref qk, .ref ql, .ref qn, .ref qh, .ref qe])), (qk, .inl (cI, 1001, .inl fk)), (ql, .inl (cI, 1001, .inl (nF pp))), (qn, .inl (cI, 1001, .inl (nF nn))), (qh, .inl (cL, 1001, .inr (.inl fh))), (qe, .inl (cL, 1001, .inr (.inl fl))), (qf, .inr (2, [v0, v1]))] ++ va_pl L (gE cO G)) s.heap := hP
  have hl := lv_entry ([.ref qp, .ref c0, .ref p0]) (n := 4) (Nat.le_of_ble_eq_true rfl)
  rw [lg_entry_eq]
  generalize (lg_sl ([.ref qp, .ref c0, .ref p0]) ++ List.replicate (4 - (lg_sl ([.ref qp, .ref c0, .ref p0])).length) Slot.unset).toArray = ls at hl ⊢
  have hl : lv_has ls 4 [(0, .ref qp), (1, .ref c0), (2, .ref p0)] := hl
  refine lv_iconst (v := nI 0) hx hb d_Parser_parseLinks_0 (by decide) ?_
  refine lv_istore_n (lv' := [(3, .int (nI 0)), (0, .ref qp), (1, .ref c0), (2, .ref p0)]) hx hb d_Parser_parseLinks_1 rfl hl (by decide) rfl (fun ls hl => ?_)
  refine W.widen (k := 4 * (P.1 12 - P.1 12)) (n := 700 * (P.1 12 - P.1 12)) (Nat.zero_le _) (Nat.zero_le _) ?_
  refine lp_Parser_parseLinks (mm := mm) (c0 := c0) (p0 := p0) (v0 := v0) (v1 := v1) (X := X) (P0 := P) (T := T) (ft := ft) (tv := tv) (nv := nv) (qna := qna) (qdf := qdf) hk3 hnn hk10 hx hb hml hown hts hA hF hE hK (fun a9 w8 w9 L G H locs ls hx0 hw hL hB hP hD hS hl => ?_) (fun a9 w8 w9 L G H locs ls hx0 hw hL hB hP hD hS hl => ?_) (fun a9 w8 w9 L G H locs ls hx0 hw hL hg1 hg2 hg3 hP hD hS hl => ?_) 1001 0 P _ _ _ _ ls (by omega) (Nat.zero_le _) (Nat.le_refl _) hL Bd hR hmm hcq rfl hX hP hD hS (lv_sub hl [1, 2, 3, 0] rfl)
  · exact wr_z (x := false) hx hb hr hlocks ((a9, w8, w9), L, G) ⟨by rw [show decide (X.1 13 = 0) = false from by simpa using hx0], hL, Or.inr ⟨hx0, hw, hB⟩⟩ hK hP hD hS d_Parser_parseLinks_19
  · exact wr_z (x := false) hx hb hr hlocks ((a9, w8, w9), L, G) ⟨by rw [show decide (X.1 13 = 0) = false from by simpa using hx0], hL, Or.inr ⟨hx0, hw, hB⟩⟩ hK hP hD hS d_Parser_parseLinks_52
  · exact wr_z (x := true) hx hb hr hlocks ((a9, w8, w9), L, G) ⟨by rw [show decide (X.1 13 = 0) = true from by simpa using hx0], hL, Or.inl ⟨hx0, hw, hg1, hg2, hg3⟩⟩ hK hP hD hS d_Parser_parseLinks_52
