/-- what is left where a part is wrong -/
def bdx (P : PS) (ad : Nat → Nat → Nat) (cn : Nat) (L : List Nat) (G0 G : PG) : Prop := gL L G ∧ WB G ad P ∧ lq P ad cn G0 G
/-- what holds while the links of chip cn are checked -/
def KSP (t0 qc qna qdf : Nat) (ft tv gp : Nat → Int32) (fh fl : Nat → Int64) (pp nn : Nat → Nat) (ad : Nat → Nat → Nat) (tg : Nat → Nat × Nat) (P : PS) (L : List Nat) (cn : Nat) (G0 G : PG) (S : PS) (i ld : Nat) : Prop :=
  RF t0 qc qna qdf ft tv fh fl pp nn G ad tg P ∧ WB G ad P ∧ gL L G ∧ lq P ad cn G0 G ∧ kp P S ∧ RSV ft gp P ad G S (P.2.2.1 23 (cn + 1)) (P.2.2.1 26 (P.2.2.1 23 (cn + 1))) (P.2.2.1 36 (cn + 1)) ∧ FO ft gp P S cn (P.2.2.1 26 (P.2.2.1 23 (cn + 1))) ∧ LK ft gp P ad cn G S i ld ∧ LKD ft gp P S cn ld
theorem kl_links_u {ft gp : Nat → Int32} {c i n l : Nat} {S : PS} : kl_links ft gp c i (n - l) l S = if l < n then (if (kl_link ft gp c i l S).1 = none then kl_links ft gp c i (n - (l + 1)) (l + 1) (kl_link ft gp c i l S).2 else kl_link ft gp c i l S) else (none, S) := by
  by_cases h : l < n
  · rw [if_pos h, show n - l = (n - (l + 1)) + 1 by omega]; rfl
  · rw [if_neg h, show n - l = 0 by omega]; rfl
theorem FO.o {ft gp : Nat → Int32} {P S S' : PS} {c ld : Nat} (f : FO ft gp P S c ld) (e : S'.2.2.2.1 = S.2.2.2.1) : FO ft gp P S' c ld := by
  unfold FO ol at f ⊢; rw [e]; exact f
theorem KSP.link {t0 qc qna qdf : Nat} {ft tv gw gp : Nat → Int32} {nv : Nat → Nat} {T : Nat} {fk : Nat → Int32} {pp nn : Nat → Nat} {fh fl : Nat → Int64} {L : List Nat} {G0 G : PG} {ad : Nat → Nat → Nat} {tg : Nat → Nat × Nat} {P S : PS} {c q l i : Nat} (r : KSP t0 qc qna qdf ft tv gp fh fl pp nn ad tg P L c G0 G S i l) (h : KC ft tv gw gp nv T fk pp nn fh fl P) (hi : inl P c q l) (h44 : S.2.2.2.1 44 q = some i) (hi2 : i < P.1 15 + 2) {X : Option (Nat × Option Nat) × PG} (hX : X = ckl G ((q_pin ft gp P i (P.2.2.1 28 l)).map (pad ad i)) (wrk ft ad P c l) (ad 13 l) (ad 15 l) (some (pp (P.2.2.1 28 l))) (some (pp (P.2.2.1 32 l)))) :
    X.1 = fpt pp (kl_link ft gp c i l S).1 ∧ RF t0 qc qna qdf ft tv fh fl pp nn X.2 ad tg P ∧ bdx P ad c L G0 X.2 ∧ (kl_link ft gp c i l S).2.2.2.2.1 = S.2.2.2.1 ∧ ((kl_link ft gp c i l S).1 = none → KSP t0 qc qna qdf ft tv gp fh fl pp nn ad tg P L c G0 X.2 (kl_link ft gp c i l S).2 i (l + 1)) := by
  obtain ⟨hR, wb, hL, hl, hk, rs, fo, lk, ld0⟩ := r
  have hq : q < P.2.2.1 23 (c + 1) := hi.2.1.2
  have hld : l < P.2.2.1 26 (P.2.2.1 23 (c + 1)) := by
    have b := h.p23 hi.1
    have e26 := h.2.2.1.2.2.2.2.2.2.2
    have := hi.2.2.2
    by_cases z : P.2.2.1 23 (c + 1) < P.1 24
    · have := (h.2.2.1.1.2.2.1.fm (q + 1) (P.2.2.1 23 (c + 1)) (by omega) z).1; omega
    · have := (h.inl hi).2
      rw [show P.2.2.1 23 (c + 1) = P.1 24 by omega, e26]; exact this
  obtain ⟨a1, a2, a3, a4, a5⟩ := ckl_cmp hR h hk hi rs.2.2 fo hld h44 hi2 wb lk hX
  have kpl : kp P (kl_link ft gp c i l S).2 := by
    refine kp_tr hk ?_
    have e := kp_kpart (ft := ft) (gp := gp) (c := c) (i := i) 1 l S
    have e2 : (kl_links ft gp c i 1 l S).2 = (kl_link ft gp c i l S).2 := by
      show (if (kl_link ft gp c i l S).1 = none then ((none, (kl_link ft gp c i l S).2) : Option (Nat × Nat) × PS) else kl_link ft gp c i l S).2 = _
      split <;> rfl
    rw [e2] at e; exact e
  exact ⟨a1, hR.sq a2.1, ⟨hL.sq a2.1, a3, hl.tr a2⟩, a4, fun e => ⟨hR.sq a2.1, a3, hL.sq a2.1, hl.tr a2, kpl, rs.lq a2 a4, fo.o a4, a5 e, LKD.o (fun q' l' h1 h2 => by
    by_cases z : l' = l
    · subst z
      have eq := inl_q h hi h1
      subst eq
      obtain ⟨x, hx⟩ := lok_of hR h hk hi h44 hi2 fo hld lk.2.2.2 e
      exact ⟨i, x, h44, hi2, hx⟩
    · exact ld0 q' l' h1 (by omega)) a4⟩⟩
theorem d_Checker_checkParts_0 : decode b_Checker_checkParts 0 = .ok (.iconst 0, 1) := by decide +kernel
theorem d_Checker_checkParts_1 : decode b_Checker_checkParts 1 = .ok (.istore_n 2, 1) := by decide +kernel
theorem d_Checker_checkParts_2 : decode b_Checker_checkParts 2 = .ok (.iload_n 2, 1) := by decide +kernel
theorem d_Checker_checkParts_3 : decode b_Checker_checkParts 3 = .ok (.aload_n 1, 1) := by decide +kernel
theorem d_Checker_checkParts_4 : decode b_Checker_checkParts 4 = .ok (.getfield 89, 3) := by decide +kernel
theorem d_Checker_checkParts_7 : decode b_Checker_checkParts 7 = .ok (.invokevirtual 37, 3) := by decide +kernel
theorem d_Checker_checkParts_10 : decode b_Checker_checkParts 10 = .ok (.if_icmp .ge 93, 3) := by decide +kernel
theorem d_Checker_checkParts_13 : decode b_Checker_checkParts 13 = .ok (.aload_n 1, 1) := by decide +kernel
theorem d_Checker_checkParts_14 : decode b_Checker_checkParts 14 = .ok (.getfield 89, 3) := by decide +kernel
theorem d_Checker_checkParts_17 : decode b_Checker_checkParts 17 = .ok (.iload_n 2, 1) := by decide +kernel
theorem d_Checker_checkParts_18 : decode b_Checker_checkParts 18 = .ok (.invokevirtual 43, 3) := by decide +kernel
theorem d_Checker_checkParts_21 : decode b_Checker_checkParts 21 = .ok (.checkcast 92, 3) := by decide +kernel
theorem d_Checker_checkParts_24 : decode b_Checker_checkParts 24 = .ok (.astore_n 3, 1) := by decide +kernel
theorem d_Checker_checkParts_25 : decode b_Checker_checkParts 25 = .ok (.aload_n 3, 1) := by decide +kernel
theorem d_Checker_checkParts_26 : decode b_Checker_checkParts 26 = .ok (.getfield 95, 3) := by decide +kernel
theorem d_Checker_checkParts_29 : decode b_Checker_checkParts 29 = .ok (.ifnonnull 19, 3) := by decide +kernel
theorem d_Checker_checkParts_32 : decode b_Checker_checkParts 32 = .ok (.aload_n 0, 1) := by decide +kernel
theorem d_Checker_checkParts_33 : decode b_Checker_checkParts 33 = .ok (.getfield 33, 3) := by decide +kernel
theorem d_Checker_checkParts_36 : decode b_Checker_checkParts 36 = .ok (.iconst 4, 1) := by decide +kernel
theorem d_Checker_checkParts_37 : decode b_Checker_checkParts 37 = .ok (.aload_n 3, 1) := by decide +kernel
theorem d_Checker_checkParts_38 : decode b_Checker_checkParts 38 = .ok (.getfield 94, 3) := by decide +kernel
theorem d_Checker_checkParts_41 : decode b_Checker_checkParts 41 = .ok (.getfield 57, 3) := by decide +kernel
theorem d_Checker_checkParts_44 : decode b_Checker_checkParts 44 = .ok (.invokevirtual 63, 3) := by decide +kernel
theorem d_Checker_checkParts_47 : decode b_Checker_checkParts 47 = .ok (.ireturn, 1) := by decide +kernel
theorem d_Checker_checkParts_48 : decode b_Checker_checkParts 48 = .ok (.aload_n 3, 1) := by decide +kernel
theorem d_Checker_checkParts_49 : decode b_Checker_checkParts 49 = .ok (.getfield 95, 3) := by decide +kernel
theorem d_Checker_checkParts_52 : decode b_Checker_checkParts 52 = .ok (.invokevirtual 151, 3) := by decide +kernel
theorem d_Checker_checkParts_55 : decode b_Checker_checkParts 55 = .ok (.iconst 0, 1) := by decide +kernel
theorem d_Checker_checkParts_56 : decode b_Checker_checkParts 56 = .ok (.istore 4, 2) := by decide +kernel
theorem d_Checker_checkParts_58 : decode b_Checker_checkParts 58 = .ok (.iload 4, 2) := by decide +kernel
theorem d_Checker_checkParts_60 : decode b_Checker_checkParts 60 = .ok (.aload_n 3, 1) := by decide +kernel
theorem d_Checker_checkParts_61 : decode b_Checker_checkParts 61 = .ok (.getfield 98, 3) := by decide +kernel
theorem d_Checker_checkParts_64 : decode b_Checker_checkParts 64 = .ok (.invokevirtual 37, 3) := by decide +kernel
theorem d_Checker_checkParts_67 : decode b_Checker_checkParts 67 = .ok (.if_icmp .ge 30, 3) := by decide +kernel
theorem d_Checker_checkParts_70 : decode b_Checker_checkParts 70 = .ok (.aload_n 0, 1) := by decide +kernel
theorem d_Checker_checkParts_71 : decode b_Checker_checkParts 71 = .ok (.aload_n 3, 1) := by decide +kernel
theorem d_Checker_checkParts_72 : decode b_Checker_checkParts 72 = .ok (.getfield 98, 3) := by decide +kernel
theorem d_Checker_checkParts_75 : decode b_Checker_checkParts 75 = .ok (.iload 4, 2) := by decide +kernel
theorem d_Checker_checkParts_77 : decode b_Checker_checkParts 77 = .ok (.invokevirtual 43, 3) := by decide +kernel
theorem d_Checker_checkParts_80 : decode b_Checker_checkParts 80 = .ok (.checkcast 101, 3) := by decide +kernel
theorem d_Checker_checkParts_83 : decode b_Checker_checkParts 83 = .ok (.invokevirtual 154, 3) := by decide +kernel
theorem d_Checker_checkParts_86 : decode b_Checker_checkParts 86 = .ok (.ifCond .ne 5, 3) := by decide +kernel
theorem d_Checker_checkParts_89 : decode b_Checker_checkParts 89 = .ok (.iconst 0, 1) := by decide +kernel
theorem d_Checker_checkParts_90 : decode b_Checker_checkParts 90 = .ok (.ireturn, 1) := by decide +kernel
theorem d_Checker_checkParts_91 : decode b_Checker_checkParts 91 = .ok (.iinc 4 1, 3) := by decide +kernel
theorem d_Checker_checkParts_94 : decode b_Checker_checkParts 94 = .ok (.goto (-36), 3) := by decide +kernel
theorem d_Checker_checkParts_97 : decode b_Checker_checkParts 97 = .ok (.iinc 2 1, 3) := by decide +kernel
theorem d_Checker_checkParts_100 : decode b_Checker_checkParts 100 = .ok (.goto (-98), 3) := by decide +kernel
theorem d_Checker_checkParts_103 : decode b_Checker_checkParts 103 = .ok (.iconst 1, 1) := by decide +kernel
theorem d_Checker_checkParts_104 : decode b_Checker_checkParts 104 = .ok (.ireturn, 1) := by decide +kernel
theorem ln_lt {ft tv gw gp : Nat → Int32} {nv : Nat → Nat} {T : Nat} {fk : Nat → Int32} {pp nn : Nat → Nat} {fh fl : Nat → Int64} {P : PS} {c q l : Nat} (h : KC ft tv gw gp nv T fk pp nn fh fl P) (hi : inl P c q l) : l < P.2.2.1 26 (P.2.2.1 23 (c + 1)) := by
  have b := h.p23 hi.1
  have e26 := h.2.2.1.2.2.2.2.2.2.2
  have := hi.2.2.2
  have := hi.2.1.2
  by_cases z : P.2.2.1 23 (c + 1) < P.1 24
  · have := (h.2.2.1.1.2.2.1.fm (q + 1) (P.2.2.1 23 (c + 1)) (by omega) z).1; omega
  · have := (h.inl hi).2
    rw [show P.2.2.1 23 (c + 1) = P.1 24 by omega, e26]; exact this
set_option maxHeartbeats 4000000 in
set_option maxRecDepth 100000 in
theorem lpi_Checker_checkParts {p : Program} {l : Launch} {e : Env} {s : State} {m : MethodId} {args : Array Value} {below : List Frame} {meth : Method} {c : Code} {Q : State → Prop} {A : Nat → Prop} {dC : Nat → ClassId} {dI : Nat → Nat → Nat} {cB cI cL cZ cC cO : ClassId} {t0 : Nat} {L : List Nat} {G0 : PG} {qx qc qf na df qi : Nat} {v0 v1 : Value} {ft tv gw gp : Nat → Int32} {nv : Nat → Nat} {T : Nat} {fk : Nat → Int32} {pp nn : Nat → Nat} {fh fl : Nat → Int64} {ad : Nat → Nat → Nat} {tg : Nat → Nat × Nat} {P : PS} {cn c0 q p0 pi i lz : Nat} {F : Option (Nat × Nat) × PS} (hkc : KC ft tv gw gp nv T fk pp nn fh fl P) (hc : cn < P.1 15) (hc0 : ad 0 cn = c0) (hq1 : P.2.2.1 23 cn ≤ q) (hq2 : q < P.2.2.1 23 (cn + 1)) (hpi : pi < 1000) (hp0 : ad 9 q = p0) (hls : ad 11 q = lz) (hi2 : i < P.1 15 + 2) (hx : p.tables.exec = Jvm.exec) (hb : c.code = b_Checker_checkParts) (hml : c.maxLocals = 5) (hown : s.vm.findClass R_Checker = some m.cls) (hts : ∀ w ∈ tb, w.before args s = true) (hA : ∀ q, s.heap.size ≤ q → A q) (hF : stF A s) (hE : stE A t0 s) (hK : va_K (dC, dI) cl [(cB, .byte), (cI, .int), (cL, .long), (cZ, .boolean), (cC, .char), (cO, .object "java/lang/Object")] s)
    (kx0 : ∀ (G : PG) (H : Heap) (locs : List Loc) (ls : Array Slot), F.1 = none → KSP t0 qc na df ft tv gp fh fl pp nn ad tg P L cn G0 G F.2 i (P.2.2.1 26 (q + 1)) → va_P (dC, dI) cl ([(qx, .inr (5, [.ref qc, .ref qf, .ref na, .ref df, .ref qi])), (qf, .inr (2, [v0, v1]))] ++ va_pl L (gE cO G)) H → va_D A ([(qx, .inr (5, [.ref qc, .ref qf, .ref na, .ref df, .ref qi])), (qf, .inr (2, [v0, v1]))] ++ va_pl L (gE cO G)) → va_S A s.heap H locs → lv_has ls 5 [(0, .ref qx), (1, .ref c0), (2, .int (nI pi))] → W p l e (headSpec w_Checker_checkParts { frames := 5, cells := 0, slots := 0, locals := 330 }).room s m args below meth c H locs 0 0 Q (F0 m 97 ls [])) (kx1 : ∀ (u : (Value × Value) × PG) (H : Heap) (locs : List Loc) (ls : Array Slot), ¬ F.1 = none → u.1 = fpr (fpt pp F.1) v0 v1 → RF t0 qc na df ft tv fh fl pp nn u.2 ad tg P → bdx P ad cn L G0 u.2 → va_P (dC, dI) cl ([(qx, .inr (5, [.ref qc, .ref qf, .ref na, .ref df, .ref qi])), (qf, .inr (2, [u.1.1, u.1.2]))] ++ va_pl L (gE cO u.2)) H → va_D A ([(qx, .inr (5, [.ref qc, .ref qf, .ref na, .ref df, .ref qi])), (qf, .inr (2, [u.1.1, u.1.2]))] ++ va_pl L (gE cO u.2)) → va_S A s.heap H locs → lv_has ls 5 [(0, .ref qx), (1, .ref c0), (2, .int (nI pi))] → W p l e (headSpec w_Checker_checkParts { frames := 5, cells := 0, slots := 0, locals := 330 }).room s m args below meth c H locs 0 0 Q (F0 m 89 ls [])) :
    ∀ (k : Nat) (j : Nat) (G : PG) (S : PS) (H : Heap) (locs : List Loc) (ls : Array Slot), P.2.2.1 26 (q + 1) - P.2.2.1 26 q < j + k → j ≤ P.2.2.1 26 (q + 1) - P.2.2.1 26 q → KSP t0 qc na df ft tv gp fh fl pp nn ad tg P L cn G0 G S i (P.2.2.1 26 q + j) → S.2.2.2.1 44 q = some i → kl_links ft gp cn i (P.2.2.1 26 (q + 1) - (P.2.2.1 26 q + j)) (P.2.2.1 26 q + j) S = F → va_P (dC, dI) cl ([(qx, .inr (5, [.ref qc, .ref qf, .ref na, .ref df, .ref qi])), (qf, .inr (2, [v0, v1]))] ++ va_pl L (gE cO G)) H → va_D A ([(qx, .inr (5, [.ref qc, .ref qf, .ref na, .ref df, .ref qi])), (qf, .inr (2, [v0, v1]))] ++ va_pl L (gE cO G)) → va_S A s.heap H locs → lv_has ls 5 [(0, .ref qx), (1, .ref c0), (2, .int (nI pi)), (3, .ref p0), (4, .int (nI j))] → W p l e (headSpec w_Checker_checkParts { frames := 5, cells := 0, slots := 0, locals := 330 }).room s m args below meth c H locs 0 0 Q (F0 m 58 ls []) := by
  intro k
  induction k with
  | zero =>
    intro j G S H locs ls hk hj ksp h44 hr hP hD hS hl
    exfalso; omega
  | succ k ih =>
    intro j G S H locs ls hk hj ksp h44 hr hP hD hS hl
    have ksp0 := ksp
    obtain ⟨hR, wb, hL, hlq, hkp, rs, hfo, hlk0, hld0⟩ := ksp0
    have hq : q < P.1 24 := by have := (hkc.p23 hc).2; omega
    have b26 := hkc.p26 hq
    have s27 : 3 * P.1 27 ≤ P.1 12 := hkc.2.2.1.2.2.2.1.2.2.2.2
    have l12 := hkc.l12
    have lT := hkc.1.1
    have kp0 : G.1 p0 = 5 := by rw [← hp0]; exact (hR.1 9 q hq).1
    obtain ⟨jq, -, hlk⟩ := hR.2.2.2.2.2.2.2.1 q hq
    have fp1 : G.2.2.2.2.2 p0 1 = some lz := by rw [← hp0, ← hls]; exact jq.2.2
    rw [hls] at hlk
    have hll : (rga (ad 12) (P.2.2.1 26 q) (P.2.2.1 26 (q + 1))).length = P.2.2.1 26 (q + 1) - P.2.2.1 26 q := rga_len _ _ _
    refine lv_iload hx hb d_Checker_checkParts_58 (lv_at hl 4 rfl) ?_
    refine lv_aload_n hx hb d_Checker_checkParts_60 rfl (lv_at hl 3 rfl) ?_
    refine pq_get (D := (dC, dI)) (ci := 10) (v := .ref lz) (C := R_Part) (T := F_Part) (N := 3) hx hb hts i_Part hown hK hP (gL_m hL kp0 (by decide)) (gE_5 (G := G) kp0) rfl 1 (by decide) (hts _ k_586) (fun _ h9 => h9) (congrArg (fun z9 => some (va_rf z9)) fp1) d_Checker_checkParts_61 ?_
    refine wd_i (cx := []) (wr := [(qx, .inr (5, [.ref qc, .ref qf, .ref na, .ref df, .ref qi])), (qf, .inr (2, [v0, v1]))]) (pl := va_pl L (gE cO G)) (va_runV (As := []) (rest := [.int (nI j)]) ⟨hx, hb, hml, hown, hts⟩ (p_List_size l dC dI cB cI cL cZ cC cO (G := G) lz t0 _ hL hlk.k.1) (cwV 0 hts (good_V k_687 k_325 k_326 k_7 k_327) rfl rfl rfl (by decide +kernel) ⟨Nat.le_of_ble_eq_true rfl, Nat.le_of_ble_eq_true rfl⟩) (wd_preV (ci := 4) (r := (R_List, F_List, 3)) hK hP hD hS hA hF hE [] (by decide) rfl rfl (pq_at (gL_m hL hlk.k.1 (by decide)) (gE_7 (G := G) hlk.k.1))) rfl rfl hl.1 rfl (lv_room (Nat.le_of_ble_eq_true rfl)) d_Checker_checkParts_64 ⟨Nat.le_of_ble_eq_true rfl, Nat.le_of_ble_eq_true rfl⟩) hP hD hS hA [] [0, 1] rfl rfl (by decide) (by decide) (fun r_2 _ H locs w_1 hP hD hS => ?_)
    have hP : va_P (dC, dI) cl ([(qx, .inr (5, [.ref qc, .ref qf, .ref na, .ref df, .ref qi])), (qf, .inr (2, [v0, v1]))] ++ va_pl L (gE cO G)) H := hP
    have hD : va_D A ([(qx, .inr (5, [.ref qc, .ref qf, .ref na, .ref df, .ref qi])), (qf, .inr (2, [v0, v1]))] ++ va_pl L (gE cO G)) := hD
    rw [hlk.k.2] at w_1
    subst w_1
    refine nv_icmp_ge (tgt := 97) hx hb (by omega) (by omega) d_Checker_checkParts_67 (by decide) (fun c_3 => ?_) (fun c_3 => ?_)
    · have hq9 : (none, S) = F := by rw [← hr, kl_links_u, if_neg (by omega)]
      subst hq9
      have ej : (P.2.2.1 26 q + j) = P.2.2.1 26 (q + 1) := by omega
      rw [ej] at ksp
      exact kx0 G H locs ls rfl ksp hP hD hS (lv_sub hl [0, 1, 2] rfl)
    · refine lv_aload_n hx hb d_Checker_checkParts_70 rfl (lv_at hl 0 rfl) ?_
      refine lv_aload_n hx hb d_Checker_checkParts_71 rfl (lv_at hl 3 rfl) ?_
      refine pq_get (D := (dC, dI)) (ci := 10) (v := .ref lz) (C := R_Part) (T := F_Part) (N := 3) hx hb hts i_Part hown hK hP (gL_m hL kp0 (by decide)) (gE_5 (G := G) kp0) rfl 1 (by decide) (hts _ k_586) (fun _ h9 => h9) (congrArg (fun z9 => some (va_rf z9)) fp1) d_Checker_checkParts_72 ?_
      refine lv_iload hx hb d_Checker_checkParts_75 (lv_at hl 4 rfl) ?_
      obtain ⟨x, hxi⟩ : ∃ z, (rga (ad 12) (P.2.2.1 26 q) (P.2.2.1 26 (q + 1)))[j]? = some z := ⟨_, List.getElem?_eq_getElem (by omega)⟩
      refine wd_q (cx := []) (wr := [(qx, .inr (5, [.ref qc, .ref qf, .ref na, .ref df, .ref qi])), (qf, .inr (2, [v0, v1]))]) (pl := va_pl L (gE cO G)) (va_runV (As := [.int (nI j)]) (rest := [.ref qx]) ⟨hx, hb, hml, hown, hts⟩ (p_List_get l dC dI cB cI cL cZ cC cO (G := G) lz (j) (rga (ad 12) (P.2.2.1 26 q) (P.2.2.1 26 (q + 1))) t0 _ hL hlk (by omega)) (cwV 1 hts (good_V k_688 k_329 k_330 k_7 k_331) rfl rfl rfl (by decide +kernel) ⟨Nat.le_of_ble_eq_true rfl, Nat.le_of_ble_eq_true rfl⟩) (wd_preV (ci := 4) (r := (R_List, F_List, 3)) hK hP hD hS hA hF hE [] (by decide) rfl rfl (pq_at (gL_m hL hlk.k.1 (by decide)) (gE_7 (G := G) hlk.k.1))) rfl rfl hl.1 rfl (lv_room (Nat.le_of_ble_eq_true rfl)) d_Checker_checkParts_77 ⟨Nat.le_of_ble_eq_true rfl, Nat.le_of_ble_eq_true rfl⟩) hP hD hS hA [] [0, 1] rfl rfl (by decide) (by decide) (fun r_5 _ H locs w_4 hP hD hS => ?_)
      have hP : va_P (dC, dI) cl ([(qx, .inr (5, [.ref qc, .ref qf, .ref na, .ref df, .ref qi])), (qf, .inr (2, [v0, v1]))] ++ va_pl L (gE cO G)) H := hP
      have hD : va_D A ([(qx, .inr (5, [.ref qc, .ref qf, .ref na, .ref df, .ref qi])), (qf, .inr (2, [v0, v1]))] ++ va_pl L (gE cO G)) := hD
      rw [hxi] at w_4
      subst w_4
      obtain ⟨ln, hln⟩ : ∃ z, z = (P.2.2.1 26 q + j) := ⟨_, rfl⟩
      rw [← hln] at ksp hr
      have hx9 : ad 12 ln = x := by rw [rga_get (by omega), ← hln] at hxi; exact Option.some.inj hxi
      have hin : inl P cn q ln := ⟨hc, ⟨hq1, hq2⟩, by omega, by omega⟩
      obtain ⟨y1, y2, y3, y4, y5, y6, y7, y8, y9⟩ := lnk_f hR hkc wb hin
      obtain ⟨g1, g2, g3, g4, g5, g6, g7, g8, g9, g10, g11⟩ := lnk_g hR hkc hin
      have tln := hkc.ln _ (hkc.inl hin).2
      have pnh := pin_h hR hkc wb hi2 tln.2.1 tln.1
      have hpn : G.2.2.2.2.2 x 2 = ((q_pin ft gp P i (P.2.2.1 28 ln)).map (pad ad i)) := by rw [← hx9]; exact rs.2.1 q ln i hq2 (ln_lt hkc hin) (by omega) (by omega) h44
      have ksl := KSP.link ksp hkc hin h44 hi2 rfl
      rw [hx9] at y1 y2 y9 g1 g2
      refine pq_cast (ci := 12) (C := R_Link) (T := F_Link) (N := 4) hx hb hown (hts _ k_701) (hF.2.2.2.2 _ (List.mem_of_getElem? (i := 6) rfl)) hK hP (gL_m hL y1 (by decide)) (gE_4 (G := G) y1) rfl d_Checker_checkParts_80 ?_
      refine wd_i (cx := [(qx, .inr (5, [.ref qc, .ref qf, .ref na, .ref df, .ref qi])), (qf, .inr (2, [v0, v1]))]) (wr := []) (pl := va_pl L (gE cO G)) (va_runV (As := [.ref x]) (rest := []) ⟨hx, hb, hml, hown, hts⟩ (p_Checker_checkLink l dC dI cB cI cL cZ cC cO qx qc qf na df qi v0 v1 ((q_pin ft gp P i (P.2.2.1 28 ln)).map (pad ad i)) (wrk ft ad P cn ln) x (ad 13 ln) (ad 15 ln) (ad 14 ln) (ad 16 ln) t0 _ hL y1 y2 g1 g2 y3 y6 y7 y8 g10 y4 y5.1 g3 g6 g7 g8 g4 g5.1 g9 (fun w9 h9 => by have q9 := y9 w9 (g2.trans h9); exact ⟨q9.1, q9.2.1, Nat.lt_of_le_of_lt q9.2.2.1 (by decide), q9.2.2.1, q9.2.2.2⟩) g11 hpn pnh) (cwV 1 hts (good_V k_731 k_733 s_Checker_checkLink k_8 k_734) rfl rfl rfl (by decide +kernel) ⟨Nat.le_of_ble_eq_true rfl, Nat.le_of_ble_eq_true rfl⟩) (wd_preV (ci := 5) (r := (R_Checker, F_Checker, 5)) hK hP hD hS hA hF hE [0, 1] (by decide) rfl rfl ⟨0, rfl⟩) rfl rfl hl.1 rfl (lv_room (Nat.le_of_ble_eq_true rfl)) d_Checker_checkParts_83 ⟨Nat.le_of_ble_eq_true rfl, Nat.le_of_ble_eq_true rfl⟩) hP hD hS hA [0, 1] [] rfl rfl (by decide) (by decide) (fun r_7 u H locs w_6 hP hD hS => ?_)
      have hP : va_P (dC, dI) cl ([(qx, .inr (5, [.ref qc, .ref qf, .ref na, .ref df, .ref qi])), (qf, .inr (2, [u.1.1, u.1.2]))] ++ va_pl L (gE cO u.2)) H := hP
      have hD : va_D A ([(qx, .inr (5, [.ref qc, .ref qf, .ref na, .ref df, .ref qi])), (qf, .inr (2, [u.1.1, u.1.2]))] ++ va_pl L (gE cO u.2)) := hD
      rw [y5.2.2.2, g5.2.2.2] at w_6
      obtain ⟨r_7e, hu1, hu2⟩ := w_6
      rw [← hu2] at ksl
      rw [ksl.1] at r_7e hu1
      subst r_7e
      refine nv_bif_ne (tgt := 91) hx hb d_Checker_checkParts_86 (by decide) (fun c_8 => ?_) (fun c_8 => ?_)
      · refine lv_iinc (v := nI (j + 1)) (lv' := [(4, .int (nI (j + 1))), (0, .ref qx), (1, .ref c0), (2, .int (nI pi)), (3, .ref p0)]) hx hb d_Checker_checkParts_91 hl (k := 4) rfl (nI_1 _) (by decide) rfl (fun ls hl => ?_)
        refine lv_goto (tgt := 58) hx hb d_Checker_checkParts_94 (by decide) ?_
        have kn9 := fpt_none.mp (of_decide_eq_true c_8)
        rw [kn9] at hu1
        obtain ⟨⟨ua, ub⟩, uG⟩ := u
        cases hu1
        exact ih (j + 1) uG (kl_link ft gp cn i ln S).2 H locs ls (by omega) (by omega) (by rw [show P.2.2.1 26 q + (j + 1) = ln + 1 by omega]; exact ksl.2.2.2.2 kn9) (by rw [ksl.2.2.2.1]; exact h44) (by rw [show P.2.2.1 26 q + (j + 1) = ln + 1 by omega, ← hr, kl_links_u (l := ln), if_pos (by omega), if_pos kn9]) hP hD hS (lv_sub hl [1, 2, 3, 4, 0] rfl)
      · have kn9 : ¬ (kl_link ft gp cn i ln S).1 = none := fun q9 => of_decide_eq_false c_8 (fpt_none.mpr q9)
        have hF : kl_link ft gp cn i ln S = F := by rw [← hr, kl_links_u (l := ln), if_pos (by omega), if_neg kn9]
        rw [hF] at hu1 kn9
        exact kx1 u H locs ls kn9 hu1 ksl.2.1 ksl.2.2.1 hP hD hS (lv_sub hl [0, 1, 2] rfl)
theorem kl_parts_u {ft gp : Nat → Int32} {c n q : Nat} {S : PS} : kl_parts ft gp c (n - q) q S = if q < n then (if (kl_part ft gp c q S).1 = none then kl_parts ft gp c (n - (q + 1)) (q + 1) (kl_part ft gp c q S).2 else kl_part ft gp c q S) else (none, S) := by
  by_cases h : q < n
  · rw [if_pos h, show n - q = (n - (q + 1)) + 1 by omega]; rfl
  · rw [if_neg h, show n - q = 0 by omega]; rfl
theorem kl_part_e {ft gp : Nat → Int32} {P S : PS} {c q : Nat} (hk : kp P S) : kl_part ft gp c q S = match S.2.2.2.1 44 q with
  | none => (some (4, P.2.2.1 25 q), S)
  | some i => kl_links ft gp c i (P.2.2.1 26 (q + 1) - P.2.2.1 26 q) (P.2.2.1 26 q) (rz 48 200 0 S) := by
  unfold kl_part
  rw [hk.2.1 25 (by decide) (by decide), hk.2.1 26 (by decide) (by decide)]
  rcases S.2.2.2.1 44 q with _ | i <;> rfl
/-- what holds between the parts -/
def KSO (t0 qc qna qdf : Nat) (ft tv gp : Nat → Int32) (fh fl : Nat → Int64) (pp nn : Nat → Nat) (ad : Nat → Nat → Nat) (tg : Nat → Nat × Nat) (P : PS) (L : List Nat) (cn : Nat) (G0 G : PG) (S : PS) (ld : Nat) : Prop :=
  RF t0 qc qna qdf ft tv fh fl pp nn G ad tg P ∧ WB G ad P ∧ gL L G ∧ lq P ad cn G0 G ∧ kp P S ∧ RSV ft gp P ad G S (P.2.2.1 23 (cn + 1)) (P.2.2.1 26 (P.2.2.1 23 (cn + 1))) (P.2.2.1 36 (cn + 1)) ∧ FO ft gp P S cn (P.2.2.1 26 (P.2.2.1 23 (cn + 1))) ∧ LKo ft gp P ad cn G S ld ∧ LKD ft gp P S cn ld
theorem KSP.o {t0 qc qna qdf : Nat} {ft tv gp : Nat → Int32} {fh fl : Nat → Int64} {pp nn : Nat → Nat} {ad : Nat → Nat → Nat} {tg : Nat → Nat × Nat} {P : PS} {L : List Nat} {cn : Nat} {G0 G : PG} {S : PS} {i ld : Nat} (r : KSP t0 qc qna qdf ft tv gp fh fl pp nn ad tg P L cn G0 G S i ld) : KSO t0 qc qna qdf ft tv gp fh fl pp nn ad tg P L cn G0 G S ld := ⟨r.1, r.2.1, r.2.2.1, r.2.2.2.1, r.2.2.2.2.1, r.2.2.2.2.2.1, r.2.2.2.2.2.2.1, r.2.2.2.2.2.2.2.1.o, r.2.2.2.2.2.2.2.2⟩
theorem KSO.free {t0 qc qna qdf : Nat} {ft tv gw gp : Nat → Int32} {nv : Nat → Nat} {T : Nat} {fk : Nat → Int32} {pp nn : Nat → Nat} {fh fl : Nat → Int64} {L : List Nat} {G0 G G' : PG} {ad : Nat → Nat → Nat} {tg : Nat → Nat × Nat} {P S : PS} {c l i : Nat} (r : KSO t0 qc qna qdf ft tv gp fh fl pp nn ad tg P L c G0 G S l) (h : KC ft tv gw gp nv T fk pp nn fh fl P) (hc : c < P.1 15) (hi2 : i < P.1 15 + 2) (hG : G' = frp (pxs ad P i) (min (ipn P i) (pxs ad P i).length) 0 G) : KSP t0 qc qna qdf ft tv gp fh fl pp nn ad tg P L c G0 G' (rz 48 200 0 S) i l := by
  obtain ⟨hR, wb, hL, hl, hk, rs, fo, lk, ld0⟩ := r
  obtain ⟨a1, a2, a3⟩ := fre_lk hR h hc hi2 wb lk hG
  have e := (rz_48 48 200 0 S).2.2
  exact ⟨hR.sq a2.1, a3, hL.sq a2.1, hl.tr a2, kp_tr hk (kp_rz 48 (Or.inl rfl) 200 0 S), rs.lq a2 (by rw [e]), fo.o (by rw [e]), a1, ld0.o (by rw [e])⟩
set_option maxHeartbeats 4000000 in
set_option maxRecDepth 100000 in
theorem lpo_Checker_checkParts {p : Program} {l : Launch} {e : Env} {s : State} {m : MethodId} {args : Array Value} {below : List Frame} {meth : Method} {c : Code} {Q : State → Prop} {A : Nat → Prop} {dC : Nat → ClassId} {dI : Nat → Nat → Nat} {cB cI cL cZ cC cO : ClassId} {t0 : Nat} {L : List Nat} {G0 : PG} {qx qc qf na df qi : Nat} {v0 v1 : Value} {ft tv gw gp : Nat → Int32} {nv : Nat → Nat} {T : Nat} {fk : Nat → Int32} {pp nn : Nat → Nat} {fh fl : Nat → Int64} {ad : Nat → Nat → Nat} {tg : Nat → Nat × Nat} {P : PS} {cn c0 lq : Nat} {F : Option (Nat × Nat) × PS} (hkc : KC ft tv gw gp nv T fk pp nn fh fl P) (hc : cn < P.1 15) (hc0 : ad 0 cn = c0) (hlq0 : ad 4 cn = lq) (hx : p.tables.exec = Jvm.exec) (hb : c.code = b_Checker_checkParts) (hml : c.maxLocals = 5) (hown : s.vm.findClass R_Checker = some m.cls) (hts : ∀ w ∈ tb, w.before args s = true) (hA : ∀ q, s.heap.size ≤ q → A q) (hF : stF A s) (hE : stE A t0 s) (hK : va_K (dC, dI) cl [(cB, .byte), (cI, .int), (cL, .long), (cZ, .boolean), (cC, .char), (cO, .object "java/lang/Object")] s)
    (kx0 : ∀ (G : PG) (H : Heap) (locs : List Loc) (ls : Array Slot), F.1 = none → KSO t0 qc na df ft tv gp fh fl pp nn ad tg P L cn G0 G F.2 (P.2.2.1 26 (P.2.2.1 23 (cn + 1))) → va_P (dC, dI) cl ([(qx, .inr (5, [.ref qc, .ref qf, .ref na, .ref df, .ref qi])), (qf, .inr (2, [v0, v1]))] ++ va_pl L (gE cO G)) H → va_D A ([(qx, .inr (5, [.ref qc, .ref qf, .ref na, .ref df, .ref qi])), (qf, .inr (2, [v0, v1]))] ++ va_pl L (gE cO G)) → va_S A s.heap H locs → lv_has ls 5 [(0, .ref qx), (1, .ref c0)] → W p l e (headSpec w_Checker_checkParts { frames := 5, cells := 0, slots := 0, locals := 330 }).room s m args below meth c H locs 0 0 Q (F0 m 103 ls [])) (kx1 : ∀ (z : Nat) (G : PG) (H : Heap) (locs : List Loc) (ls : Array Slot), ¬ F.1 = none → fpt pp F.1 = some (4, some z) → RF t0 qc na df ft tv fh fl pp nn G ad tg P → bdx P ad cn L G0 G → va_P (dC, dI) cl ([(qx, .inr (5, [.ref qc, .ref qf, .ref na, .ref df, .ref qi])), (qf, .inr (2, [.int (nI 4), .int (oI (some z))]))] ++ va_pl L (gE cO G)) H → va_D A ([(qx, .inr (5, [.ref qc, .ref qf, .ref na, .ref df, .ref qi])), (qf, .inr (2, [.int (nI 4), .int (oI (some z))]))] ++ va_pl L (gE cO G)) → va_S A s.heap H locs → lv_has ls 5 [(0, .ref qx), (1, .ref c0)] → W p l e (headSpec w_Checker_checkParts { frames := 5, cells := 0, slots := 0, locals := 330 }).room s m args below meth c H locs 0 0 Q (F0 m 47 ls [.int (bI false)])) (kx2 : ∀ (u : (Value × Value) × PG) (H : Heap) (locs : List Loc) (ls : Array Slot), ¬ F.1 = none → u.1 = fpr (fpt pp F.1) v0 v1 → RF t0 qc na df ft tv fh fl pp nn u.2 ad tg P → bdx P ad cn L G0 u.2 → va_P (dC, dI) cl ([(qx, .inr (5, [.ref qc, .ref qf, .ref na, .ref df, .ref qi])), (qf, .inr (2, [u.1.1, u.1.2]))] ++ va_pl L (gE cO u.2)) H → va_D A ([(qx, .inr (5, [.ref qc, .ref qf, .ref na, .ref df, .ref qi])), (qf, .inr (2, [u.1.1, u.1.2]))] ++ va_pl L (gE cO u.2)) → va_S A s.heap H locs → lv_has ls 5 [(0, .ref qx), (1, .ref c0)] → W p l e (headSpec w_Checker_checkParts { frames := 5, cells := 0, slots := 0, locals := 330 }).room s m args below meth c H locs 0 0 Q (F0 m 89 ls [])) :
    ∀ (k : Nat) (pi : Nat) (G : PG) (S : PS) (H : Heap) (locs : List Loc) (ls : Array Slot), P.2.2.1 23 (cn + 1) - P.2.2.1 23 cn < pi + k → pi ≤ P.2.2.1 23 (cn + 1) - P.2.2.1 23 cn → KSO t0 qc na df ft tv gp fh fl pp nn ad tg P L cn G0 G S (P.2.2.1 26 (P.2.2.1 23 cn + pi)) → kl_parts ft gp cn (P.2.2.1 23 (cn + 1) - (P.2.2.1 23 cn + pi)) (P.2.2.1 23 cn + pi) S = F → va_P (dC, dI) cl ([(qx, .inr (5, [.ref qc, .ref qf, .ref na, .ref df, .ref qi])), (qf, .inr (2, [v0, v1]))] ++ va_pl L (gE cO G)) H → va_D A ([(qx, .inr (5, [.ref qc, .ref qf, .ref na, .ref df, .ref qi])), (qf, .inr (2, [v0, v1]))] ++ va_pl L (gE cO G)) → va_S A s.heap H locs → lv_has ls 5 [(0, .ref qx), (1, .ref c0), (2, .int (nI pi))] → W p l e (headSpec w_Checker_checkParts { frames := 5, cells := 0, slots := 0, locals := 330 }).room s m args below meth c H locs 0 0 Q (F0 m 2 ls []) := by
  intro k
  induction k with
  | zero =>
    intro pi G S H locs ls hk hj kso hr hP hD hS hl
    exfalso; omega
  | succ k ih =>
    intro pi G S H locs ls hk hj kso hr hP hD hS hl
    obtain ⟨q, hqe⟩ : ∃ z, z = P.2.2.1 23 cn + pi := ⟨_, rfl⟩
    rw [← hqe] at kso hr
    have kso0 := kso
    obtain ⟨hR, wb, hL, hlq, hkp, rs, hfo, hlk0, hld0⟩ := kso0
    have b23 := hkc.p23 hc
    have s24 : P.1 24 ≤ 12 * P.1 15 := hkc.2.2.1.2.2.2.1.2.2.1
    have s15 : P.1 15 ≤ 8 := hkc.2.2.1.2.2.2.1.1
    obtain ⟨cc1, -, -, -, cc5⟩ := hR.2.2.2.2.1 cn hc
    rw [hc0] at cc1
    rw [hlq0] at cc1 cc5
    have hll : (rga (ad 9) (P.2.2.1 23 cn) (P.2.2.1 23 (cn + 1))).length = P.2.2.1 23 (cn + 1) - P.2.2.1 23 cn := rga_len _ _ _
    refine lv_iload_n hx hb d_Checker_checkParts_2 rfl (lv_at hl 2 rfl) ?_
    refine lv_aload_n hx hb d_Checker_checkParts_3 rfl (lv_at hl 1 rfl) ?_
    refine pq_get (D := (dC, dI)) (ci := 6) (v := .ref lq) (C := R_Chip) (T := F_Chip) (N := 9) hx hb hts i_Chip hown hK hP (gL_m hL cc1.1 (by decide)) (gE_6 (G := G) cc1.1) rfl 5 (by decide) (hts _ k_179) (fun _ h9 => h9) (congrArg (fun z9 => some (va_rf z9)) cc1.2.2.2.2.2.2.1) d_Checker_checkParts_4 ?_
    refine wd_i (cx := []) (wr := [(qx, .inr (5, [.ref qc, .ref qf, .ref na, .ref df, .ref qi])), (qf, .inr (2, [v0, v1]))]) (pl := va_pl L (gE cO G)) (va_runV (As := []) (rest := [.int (nI pi)]) ⟨hx, hb, hml, hown, hts⟩ (p_List_size l dC dI cB cI cL cZ cC cO (G := G) lq t0 _ hL cc5.k.1) (cwV 0 hts (good_V k_687 k_325 k_326 k_7 k_327) rfl rfl rfl (by decide +kernel) ⟨Nat.le_of_ble_eq_true rfl, Nat.le_of_ble_eq_true rfl⟩) (wd_preV (ci := 4) (r := (R_List, F_List, 3)) hK hP hD hS hA hF hE [] (by decide) rfl rfl (pq_at (gL_m hL cc5.k.1 (by decide)) (gE_7 (G := G) cc5.k.1))) rfl rfl hl.1 rfl (lv_room (Nat.le_of_ble_eq_true rfl)) d_Checker_checkParts_7 ⟨Nat.le_of_ble_eq_true rfl, Nat.le_of_ble_eq_true rfl⟩) hP hD hS hA [] [0, 1] rfl rfl (by decide) (by decide) (fun r_2 _ H locs w_1 hP hD hS => ?_)
    have hP : va_P (dC, dI) cl ([(qx, .inr (5, [.ref qc, .ref qf, .ref na, .ref df, .ref qi])), (qf, .inr (2, [v0, v1]))] ++ va_pl L (gE cO G)) H := hP
    have hD : va_D A ([(qx, .inr (5, [.ref qc, .ref qf, .ref na, .ref df, .ref qi])), (qf, .inr (2, [v0, v1]))] ++ va_pl L (gE cO G)) := hD
    rw [cc5.k.2] at w_1
    subst w_1
    refine nv_icmp_ge (tgt := 103) hx hb (by omega) (by omega) d_Checker_checkParts_10 (by decide) (fun c_3 => ?_) (fun c_3 => ?_)
    · have hq9 : (none, S) = F := by rw [← hr, kl_parts_u, if_neg (by omega)]
      subst hq9
      have ej : q = P.2.2.1 23 (cn + 1) := by omega
      rw [ej] at kso
      exact kx0 G H locs ls rfl kso hP hD hS (lv_sub hl [0, 1] rfl)
    · refine lv_aload_n hx hb d_Checker_checkParts_13 rfl (lv_at hl 1 rfl) ?_
      refine pq_get (D := (dC, dI)) (ci := 6) (v := .ref lq) (C := R_Chip) (T := F_Chip) (N := 9) hx hb hts i_Chip hown hK hP (gL_m hL cc1.1 (by decide)) (gE_6 (G := G) cc1.1) rfl 5 (by decide) (hts _ k_179) (fun _ h9 => h9) (congrArg (fun z9 => some (va_rf z9)) cc1.2.2.2.2.2.2.1) d_Checker_checkParts_14 ?_
      refine lv_iload_n hx hb d_Checker_checkParts_17 rfl (lv_at hl 2 rfl) ?_
      obtain ⟨x, hxi⟩ : ∃ z, (rga (ad 9) (P.2.2.1 23 cn) (P.2.2.1 23 (cn + 1)))[pi]? = some z := ⟨_, List.getElem?_eq_getElem (by omega)⟩
      refine wd_q (cx := []) (wr := [(qx, .inr (5, [.ref qc, .ref qf, .ref na, .ref df, .ref qi])), (qf, .inr (2, [v0, v1]))]) (pl := va_pl L (gE cO G)) (va_runV (As := [.int (nI pi)]) (rest := []) ⟨hx, hb, hml, hown, hts⟩ (p_List_get l dC dI cB cI cL cZ cC cO (G := G) lq (pi) (rga (ad 9) (P.2.2.1 23 cn) (P.2.2.1 23 (cn + 1))) t0 _ hL cc5 (by omega)) (cwV 1 hts (good_V k_688 k_329 k_330 k_7 k_331) rfl rfl rfl (by decide +kernel) ⟨Nat.le_of_ble_eq_true rfl, Nat.le_of_ble_eq_true rfl⟩) (wd_preV (ci := 4) (r := (R_List, F_List, 3)) hK hP hD hS hA hF hE [] (by decide) rfl rfl (pq_at (gL_m hL cc5.k.1 (by decide)) (gE_7 (G := G) cc5.k.1))) rfl rfl hl.1 rfl (lv_room (Nat.le_of_ble_eq_true rfl)) d_Checker_checkParts_18 ⟨Nat.le_of_ble_eq_true rfl, Nat.le_of_ble_eq_true rfl⟩) hP hD hS hA [] [0, 1] rfl rfl (by decide) (by decide) (fun r_5 _ H locs w_4 hP hD hS => ?_)
      have hP : va_P (dC, dI) cl ([(qx, .inr (5, [.ref qc, .ref qf, .ref na, .ref df, .ref qi])), (qf, .inr (2, [v0, v1]))] ++ va_pl L (gE cO G)) H := hP
      have hD : va_D A ([(qx, .inr (5, [.ref qc, .ref qf, .ref na, .ref df, .ref qi])), (qf, .inr (2, [v0, v1]))] ++ va_pl L (gE cO G)) := hD
      rw [hxi] at w_4
      subst w_4
      have hx9 : ad 9 q = x := by rw [rga_get (by omega), ← hqe] at hxi; exact Option.some.inj hxi
      have hq : q < P.1 24 := by omega
      obtain ⟨jq, jt, -⟩ := hR.2.2.2.2.2.2.2.1 q hq
      obtain ⟨nm, hnm⟩ : ∃ z, z = ad 10 q := ⟨_, rfl⟩
      rw [← hnm] at jq jt
      rw [hx9] at jq
      have fr2 := rs.1 q (by omega)
      rw [hx9] at fr2
      have kpe := kl_part_e (ft := ft) (gp := gp) (c := cn) (q := q) hkp
      rw [kl_parts_u, if_pos (by omega)] at hr
      refine pq_cast (ci := 10) (C := R_Part) (T := F_Part) (N := 3) hx hb hown (hts _ k_700) (hF.2.2.2.2 _ (List.mem_of_getElem? (i := 5) rfl)) hK hP (gL_m hL jq.1 (by decide)) (gE_5 (G := G) jq.1) rfl d_Checker_checkParts_21 ?_
      refine lv_astore_n (lv' := [(3, .ref x), (0, .ref qx), (1, .ref c0), (2, .int (nI pi))]) hx hb d_Checker_checkParts_24 rfl hl (by decide) rfl (fun ls hl => ?_)
      rcases h44 : S.2.2.2.1 44 q with _ | i
      · have fx2 : G.2.2.2.2.2 x 2 = none := by rw [fr2.1, h44]; rfl
        rw [h44] at kpe
        refine lv_aload_n hx hb d_Checker_checkParts_25 rfl (lv_at hl 0 rfl) ?_
        refine pq_get (D := (dC, dI)) (ci := 10) (v := .null) (C := R_Part) (T := F_Part) (N := 3) hx hb hts i_Part hown hK hP (gL_m hL jq.1 (by decide)) (gE_5 (G := G) jq.1) rfl 2 (by decide) (hts _ k_590) (fun _ h9 => h9) (congrArg (fun z9 => some (va_rf z9)) fx2) d_Checker_checkParts_26 ?_
        refine lv_ifnonnullN hx hb d_Checker_checkParts_29 ?_
        refine lv_aload_n hx hb d_Checker_checkParts_32 rfl (lv_at hl 1 rfl) ?_
        refine va_get (D := (dC, dI)) (ci := 5) (v := .ref qf) (C := R_Checker) (T := F_Checker) (N := 5) hx hb hts i_Checker hown hK hP 0 rfl rfl 1 (by decide) (hts _ k_352) (fun _ h9 => h9) rfl d_Checker_checkParts_33 ?_
        refine lv_iconst (v := nI 4) hx hb d_Checker_checkParts_36 (by decide) ?_
        refine lv_aload_n hx hb d_Checker_checkParts_37 rfl (lv_at hl 0 rfl) ?_
        refine pq_get (D := (dC, dI)) (ci := 10) (v := .ref nm) (C := R_Part) (T := F_Part) (N := 3) hx hb hts i_Part hown hK hP (gL_m hL jq.1 (by decide)) (gE_5 (G := G) jq.1) rfl 0 (by decide) (hts _ k_584) (fun _ h9 => h9) (congrArg (fun z9 => some (va_rf z9)) jq.2.1) d_Checker_checkParts_38 ?_
        refine pq_get (D := (dC, dI)) (ci := 7) (v := .int (oI (some (pp (P.2.2.1 25 q))))) (C := R_Name) (T := F_Name) (N := 3) hx hb hts i_Name hown hK hP (gL_m hL jt.1 (by decide)) (gE_1 (G := G) jt.1) rfl 2 (by decide) (hts _ k_150) (fun _ h9 => h9) (congrArg (fun z9 => some (Value.int (oI z9))) jt.2.2.2) d_Checker_checkParts_41 ?_
        refine we_i (cx := [(qf, .inr (2, [v0, v1]))]) (wr := [(qx, .inr (5, [.ref qc, .ref qf, .ref na, .ref df, .ref qi]))]) (pl := va_pl L (gE cO G)) (va_runV (As := [.int (nI 4), .int (oI (some (pp (P.2.2.1 25 q))))]) (rest := []) ⟨hx, hb, hml, hown, hts⟩ (c_Fault_note l dC dI cB cI cL cZ cC cO qf (nI 4) (oI (some (pp (P.2.2.1 25 q)))) _ ) (cwV 2 hts (good_V k_695 k_534 k_535 k_3 k_536) rfl rfl rfl (by decide +kernel) ⟨Nat.le_of_ble_eq_true rfl, Nat.le_of_ble_eq_true rfl⟩) (wc_preV (k0 := 1) (ci := 2) (r := (R_Fault, F_Fault, 2)) hK hP hD hS hA hF [1] (by decide) rfl rfl rfl) rfl rfl hl.1 rfl (lv_room (Nat.le_of_ble_eq_true rfl)) d_Checker_checkParts_44 ⟨Nat.le_of_ble_eq_true rfl, Nat.le_of_ble_eq_true rfl⟩) hP hD hS hA [1] [0] rfl rfl (by decide) (by decide) (fun r_7 _ H locs w_6 hP hD hS => ?_)
        have hP : va_P (dC, dI) cl ([(qx, .inr (5, [.ref qc, .ref qf, .ref na, .ref df, .ref qi])), (qf, .inr (2, [.int (nI 4), .int (oI (some (pp (P.2.2.1 25 q))))]))] ++ va_pl L (gE cO G)) H := hP
        have hD : va_D A ([(qx, .inr (5, [.ref qc, .ref qf, .ref na, .ref df, .ref qi])), (qf, .inr (2, [.int (nI 4), .int (oI (some (pp (P.2.2.1 25 q))))]))] ++ va_pl L (gE cO G)) := hD
        subst w_6
        have hn9 : kl_part ft gp cn q S = F := by rw [kpe] at hr ⊢; exact hr
        rw [hn9] at kpe
        exact kx1 (pp (P.2.2.1 25 q)) G H locs ls (by rw [kpe]; exact fun q9 => by cases q9) (by rw [kpe]; rfl) hR ⟨hL, wb, hlq⟩ hP hD hS (lv_sub hl [1, 2] rfl)
      · have hi2 := fr2.2 i h44
        have fx2 : G.2.2.2.2.2 x 2 = some (cad ad i) := by rw [fr2.1, h44]; rfl
        rw [h44] at kpe
        obtain ⟨cf1, cf2, cf3, cf4, cf5⟩ := cad_f hR hkc hi2
        obtain ⟨ip1, ip2, -⟩ := ipn_f hR hkc hi2
        refine lv_aload_n hx hb d_Checker_checkParts_25 rfl (lv_at hl 0 rfl) ?_
        refine pq_get (D := (dC, dI)) (ci := 10) (v := .ref (cad ad i)) (C := R_Part) (T := F_Part) (N := 3) hx hb hts i_Part hown hK hP (gL_m hL jq.1 (by decide)) (gE_5 (G := G) jq.1) rfl 2 (by decide) (hts _ k_590) (fun _ h9 => h9) (congrArg (fun z9 => some (va_rf z9)) fx2) d_Checker_checkParts_26 ?_
        refine lv_ifnonnull (tgt := 48) hx hb d_Checker_checkParts_29 (by decide) ?_
        refine lv_aload_n hx hb d_Checker_checkParts_48 rfl (lv_at hl 0 rfl) ?_
        refine pq_get (D := (dC, dI)) (ci := 10) (v := .ref (cad ad i)) (C := R_Part) (T := F_Part) (N := 3) hx hb hts i_Part hown hK hP (gL_m hL jq.1 (by decide)) (gE_5 (G := G) jq.1) rfl 2 (by decide) (hts _ k_590) (fun _ h9 => h9) (congrArg (fun z9 => some (va_rf z9)) fx2) d_Checker_checkParts_49 ?_
        refine wd_v (cx := []) (wr := [(qx, .inr (5, [.ref qc, .ref qf, .ref na, .ref df, .ref qi])), (qf, .inr (2, [v0, v1]))]) (pl := va_pl L (gE cO G)) (va_runV (As := []) (rest := []) ⟨hx, hb, hml, hown, hts⟩ (p_Chip_freeInPins l dC dI cB cI cL cZ cC cO (cad ad i) (pxl ad i) (ipn P i) (pxs ad P i) t0 _ hL cf4 (by omega) cf3 cf1 cf2 ip1 (fun w9 h9 => (cf5 w9 h9).1)) (cwV 0 hts (good_V k_727 k_728 k_729 k_9 k_730) rfl rfl rfl (by decide +kernel) ⟨Nat.le_of_ble_eq_true rfl, Nat.le_of_ble_eq_true rfl⟩) (wd_preV (ci := 6) (r := (R_Chip, F_Chip, 9)) hK hP hD hS hA hF hE [] (by decide) rfl rfl (pq_at (gL_m hL cf1 (by decide)) (gE_6 (G := G) cf1))) rfl rfl hl.1 rfl (lv_room (Nat.le_of_ble_eq_true rfl)) d_Checker_checkParts_52 ⟨Nat.le_of_ble_eq_true rfl, Nat.le_of_ble_eq_true rfl⟩) hP hD hS hA [] [0, 1] rfl rfl (by decide) (by decide) (fun u H locs w_8 hP hD hS => ?_)
        have hP : va_P (dC, dI) cl ([(qx, .inr (5, [.ref qc, .ref qf, .ref na, .ref df, .ref qi])), (qf, .inr (2, [v0, v1]))] ++ va_pl L (gE cO u)) H := hP
        have hD : va_D A ([(qx, .inr (5, [.ref qc, .ref qf, .ref na, .ref df, .ref qi])), (qf, .inr (2, [v0, v1]))] ++ va_pl L (gE cO u)) := hD
        have ksp9 := KSO.free kso hkc hc hi2 w_8
        refine lv_iconst (v := nI 0) hx hb d_Checker_checkParts_55 (by decide) ?_
        refine lv_istore (lv' := [(4, .int (nI 0)), (3, .ref x), (0, .ref qx), (1, .ref c0), (2, .int (nI pi))]) hx hb d_Checker_checkParts_56 hl (by decide) rfl (fun ls hl => ?_)
        obtain ⟨FF, hFF⟩ : ∃ z, z = kl_part ft gp cn q S := ⟨_, rfl⟩
        rw [← hFF] at hr kpe
        refine lpi_Checker_checkParts (F := FF) hkc hc hc0 (by omega) (by omega) (by omega) hx9 rfl hi2 hx hb hml hown hts hA hF hE hK (fun G9 H locs ls hF9 kso9 hP hD hS hl => ?_) (fun u9 H locs ls hF9 hu9 hR9 hL9 hP hD hS hl => ?_) (P.2.2.1 26 (q + 1) - P.2.2.1 26 q + 1) 0 _ (rz 48 200 0 S) _ _ ls (by omega) (by omega) ksp9 (by rw [(rz_48 48 200 0 S).2.2]; exact h44) kpe.symm hP hD hS (lv_sub hl [2, 3, 4, 1, 0] rfl)
        · refine lv_iinc (v := nI (pi + 1)) (lv' := [(2, .int (nI (pi + 1))), (0, .ref qx), (1, .ref c0)]) hx hb d_Checker_checkParts_97 hl (k := 2) rfl (nI_1 _) (by decide) rfl (fun ls hl => ?_)
          refine lv_goto (tgt := 2) hx hb d_Checker_checkParts_100 (by decide) ?_
          rw [if_pos hF9] at hr
          exact ih (pi + 1) G9 FF.2 H locs ls (by omega) (by omega) (by rw [show P.2.2.1 23 cn + (pi + 1) = q + 1 by omega]; exact kso9.o) (by rw [show P.2.2.1 23 cn + (pi + 1) = q + 1 by omega]; exact hr) hP hD hS (lv_sub hl [1, 2, 0] rfl)
        · rw [if_neg hF9] at hr
          subst hr
          exact kx2 u9 H locs ls hF9 hu9 hR9 hL9 hP hD hS (lv_sub hl [0, 1] rfl)
set_option maxHeartbeats 4000000 in
set_option maxRecDepth 100000 in
/-- checkParts(chip) -/
theorem p_Checker_checkParts (l : Launch) (dC : Nat → ClassId) (dI : Nat → Nat → Nat) (cB cI cL cZ cC cO : ClassId) {L : List Nat} {G : PG} (qx qc qf na df qi : Nat) (v0 v1 : Value) (ft tv gw gp : Nat → Int32) (nv : Nat → Nat) (T : Nat) (fk : Nat → Int32) (pp nn : Nat → Nat) (fh fl : Nat → Int64) (ad : Nat → Nat → Nat) (tg : Nat → Nat × Nat) (P : PS) (cn c0 : Nat) (G0 : PG) (S : PS) (t0 sz : Nat) (hkc : KC ft tv gw gp nv T fk pp nn fh fl P) (hc : cn < P.1 15) (hc0 : ad 0 cn = c0) (kso : KSO t0 qc na df ft tv gp fh fl pp nn ad tg P L cn G0 G S (P.2.2.1 26 (P.2.2.1 23 cn))) : Met l y_Checker_checkParts w_Checker_checkParts ({ frames := 5, cells := 0, slots := 0, locals := 330 }) (va_Pc [.ref qx, .ref c0] (wB2 (dC, dI) cl [(cB, .byte), (cI, .int), (cL, .long), (cZ, .boolean), (cC, .char), (cO, .object "java/lang/Object")] sz t0 ([(qx, .inr (5, [.ref qc, .ref qf, .ref na, .ref df, .ref qi])), (qf, .inr (2, [v0, v1]))] ++ va_pl L (gE cO G)))) (va_Qi (fun (r : Int32) (u : (Value × Value) × PG) => r = bI (decide ((kl_parts ft gp cn (P.2.2.1 23 (cn + 1) - P.2.2.1 23 cn) (P.2.2.1 23 cn) S).1 = none)) ∧ u.1 = fpr (fpt pp (kl_parts ft gp cn (P.2.2.1 23 (cn + 1) - P.2.2.1 23 cn) (P.2.2.1 23 cn) S).1) v0 v1 ∧ RF t0 qc na df ft tv fh fl pp nn u.2 ad tg P ∧ bdx P ad cn L G0 u.2 ∧ ((kl_parts ft gp cn (P.2.2.1 23 (cn + 1) - P.2.2.1 23 cn) (P.2.2.1 23 cn) S).1 = none → KSO t0 qc na df ft tv gp fh fl pp nn ad tg P L cn G0 u.2 (kl_parts ft gp cn (P.2.2.1 23 (cn + 1) - P.2.2.1 23 cn) (P.2.2.1 23 cn) S).2 (P.2.2.1 26 (P.2.2.1 23 (cn + 1))))) (fun u t => wA (dC, dI) cl [(cB, .byte), (cI, .int), (cL, .long), (cZ, .boolean), (cC, .char), (cO, .object "java/lang/Object")] (va_A ([(qx, .inr (5, [.ref qc, .ref qf, .ref na, .ref df, .ref qi])), (qf, .inr (2, [v0, v1]))] ++ va_pl L (gE cO G)) sz) ([(qx, .inr (5, [.ref qc, .ref qf, .ref na, .ref df, .ref qi])), (qf, .inr (2, [u.1.1, u.1.2]))] ++ va_pl L (gE cO u.2)) t) (va_A ([(qx, .inr (5, [.ref qc, .ref qf, .ref na, .ref df, .ref qi])), (qf, .inr (2, [v0, v1]))] ++ va_pl L (gE cO G)) sz)) 0 0 (va_A ([(qx, .inr (5, [.ref qc, .ref qf, .ref na, .ref df, .ref qi])), (qf, .inr (2, [v0, v1]))] ++ va_pl L (gE cO G)) sz) := by
  refine Met.ofW (cc := b_Checker_checkParts) (maxL := 5) (ret := (some ClassFile.FieldType.boolean)) (by decide) rfl ?_
  intro p e s m args below meth c s₁ B hml hv
  obtain ⟨rfl, ⟨hsz, hP, hK, hD0, hF⟩, hE⟩ := hv
  have hx := B.exec
  have hb := B.bytes
  have hr := B.returns
  have hts := atoms_spec (ws := w_Checker_checkParts) B.pre
  have hts : ∀ w ∈ tb, w.before _ s = true := fun w h => hts w (List.mem_cons_of_mem _ h)
  have hown : s.vm.findClass R_Checker = some m.cls := findClass_of_methodNamed B.named
  have hlocks := B.notSynchronized
  subst hsz
  have hD := hD0.self (sz := s.heap.size)
  generalize hAe : va_A ([(qx, .inr (5, [.ref qc, .ref qf, .ref na, .ref df, .ref qi])), (qf, .inr (2, [v0, v1]))] ++ va_pl L (gE cO G)) s.heap.size = A at hD hF hE ⊢
  have hA : ∀ q : Nat, s.heap.size ≤ q → A q := fun q h => by rw [← hAe]; exact Or.inr h
  have hS : va_S A s.heap s.heap [] := va_S.rf
  have hP : va_P (dC, dI) cl ([(qx, .inr (5, [.ref qc, .ref qf, .ref na, .ref df, .ref qi])), (qf, .inr (2, [v0, v1]))] ++ va_pl L (gE cO G)) s.heap := hP
  have hl := lv_entry ([.ref qx, .ref c0]) (n := 5) (Nat.le_of_ble_eq_true rfl)
  rw [lg_entry_eq]
  generalize (lg_sl ([.ref qx, .ref c0]) ++ List.replicate (5 - (lg_sl ([.ref qx, .ref c0])).length) Slot.unset).toArray = ls at hl ⊢
  have hl : lv_has ls 5 [(0, .ref qx), (1, .ref c0)] := hl
  refine lv_iconst (v := nI 0) hx hb d_Checker_checkParts_0 (by decide) ?_
  refine lv_istore_n (lv' := [(2, .int (nI 0)), (0, .ref qx), (1, .ref c0)]) hx hb d_Checker_checkParts_1 rfl hl (by decide) rfl (fun ls hl => ?_)
  refine lpo_Checker_checkParts (F := (kl_parts ft gp cn (P.2.2.1 23 (cn + 1) - P.2.2.1 23 cn) (P.2.2.1 23 cn) S)) hkc hc hc0 rfl hx hb hml hown hts hA hF hE hK (fun G9 H locs ls hF9 kso9 hP hD hS hl => ?_) (fun z G H locs ls hF9 hF8 hR9 hL9 hP hD hS hl => ?_) (fun u9 H locs ls hF9 hu9 hR9 hL9 hP hD hS hl => ?_) (P.2.2.1 23 (cn + 1) - P.2.2.1 23 cn + 1) 0 G S _ _ ls (by omega) (by omega) kso rfl hP hD hS (lv_sub hl [1, 2, 0] rfl)
  · refine lv_iconst (v := nI 1) hx hb d_Checker_checkParts_103 (by decide) ?_
    exact wr_z (x := true) hx hb hr hlocks ((v0, v1), G9) ⟨by rw [decide_eq_true hF9], by rw [hF9]; rfl, kso9.1, ⟨kso9.2.2.1, kso9.2.1, kso9.2.2.2.1⟩, fun _ => kso9⟩ hK hP hD hS d_Checker_checkParts_104
  · exact wr_z (x := false) hx hb hr hlocks ((.int (nI 4), .int (oI (some z))), G) ⟨by rw [decide_eq_false hF9], by rw [hF8]; rfl, hR9, hL9, fun q9 => absurd q9 hF9⟩ hK hP hD hS d_Checker_checkParts_47
  · refine lv_iconst (v := nI 0) hx hb d_Checker_checkParts_89 (by decide) ?_
    exact wr_z (x := false) hx hb hr hlocks u9 ⟨by rw [decide_eq_false hF9], hu9, hR9, hL9, fun q9 => absurd q9 hF9⟩ hK hP hD hS d_Checker_checkParts_90
