theorem k1pin_kp {ft : Nat → Int32} {nv : Nat → Nat} {P S : PS} {c p : Nat} (hk : kp P S) : k1_pin ft nv c p S = k1_pin ft nv c p P := by
  unfold k1_pin
  rw [hk.2.1 8 (by decide) (by decide), hk.2.1 9 (by decide) (by decide), hk.2.1 20 (by decide) (by decide), hk.2.1 17 (by decide) (by decide), hk.2.2.1 22 (by decide) (by decide)]
theorem k1pins_kp {ft : Nat → Int32} {nv : Nat → Nat} {P S : PS} {c : Nat} (hk : kp P S) : ∀ k p, k1_pins ft nv c S k p = k1_pins ft nv c P k p
  | 0, _ => rfl
  | k + 1, p => by
    show (if k1_pin ft nv c p S = none then k1_pins ft nv c S k (p + 1) else k1_pin ft nv c p S) = (if k1_pin ft nv c p P = none then k1_pins ft nv c P k (p + 1) else k1_pin ft nv c p P)
    rw [k1pin_kp hk, k1pins_kp hk k (p + 1)]
theorem k1_kp {ft gw : Nat → Int32} {nv : Nat → Nat} {P S : PS} {c : Nat} (hk : kp P S) : k1 ft gw nv c S = k1 ft gw nv c P := by
  unfold k1
  rw [k1pins_kp hk, q_word_kp hk, hk.2.1 8 (by decide) (by decide), hk.2.1 9 (by decide) (by decide), hk.2.1 16 (by decide) (by decide), hk.2.1 17 (by decide) (by decide)]
/-- the chips from c on, out of the reference's rows -/
def fia (ft gw gp : Nat → Int32) (P : PS) (c : Nat) (S : PS) : PS := fi_parts ft gw gp c (P.2.2.1 23 (c + 1) - P.2.2.1 23 c) (P.2.2.1 23 c) (fi_0 (P.2.2.1 36 (c + 1) - P.2.2.1 36 c) (P.2.2.1 36 c) S)
def kla (ft gw gp : Nat → Int32) (P : PS) (c : Nat) (S : PS) : Option (Nat × Nat) × PS := kl_parts ft gp c (P.2.2.1 23 (c + 1) - P.2.2.1 23 c) (P.2.2.1 23 c) (rz 49 200 0 (fia ft gw gp P c S))
theorem kla_e {ft gw gp : Nat → Int32} {P S : PS} {c : Nat} (hk : kp P S) : kl_all ft gp c (fi_all ft gw gp c S) = kla ft gw gp P c S := by
  have k1 := kp_tr hk (kp_fi ft gw gp c S)
  unfold kl_all kla
  rw [k1.2.1 23 (by decide) (by decide)]
  unfold fi_all fia
  rw [hk.2.1 23 (by decide) (by decide), hk.2.1 36 (by decide) (by decide)]
theorem k_all_u {ft gw gp : Nat → Int32} {nv : Nat → Nat} {P S : PS} {n c : Nat} (hk : kp P S) : k_all ft gw gp nv (n - c) c S = if c < n then (match k1 ft gw nv c P with
    | some x => (some x, S)
    | none => if (kla ft gw gp P c S).1 = none then k_all ft gw gp nv (n - (c + 1)) (c + 1) (kla ft gw gp P c S).2 else kla ft gw gp P c S) else (none, S) := by
  by_cases h : c < n
  · rw [if_pos h, show n - c = (n - (c + 1)) + 1 by omega, ← k1_kp hk, ← kla_e hk]; rfl
  · rw [if_neg h, show n - c = 0 by omega]; rfl
/-- what the next text stands on -/
theorem RF.rb {t0 qc qna qdf : Nat} {ft tv : Nat → Int32} {fh fl : Nat → Int64} {pp nn : Nat → Nat} {G : PG} {ad : Nat → Nat → Nat} {tg : Nat → Nat × Nat} {P : PS} (hR : RF t0 qc qna qdf ft tv fh fl pp nn G ad tg P) (g4 : GO4 G ad) (wb : ∀ j, j < 5 → G.2.1 (ad 22 j) 5 < 65536) (h15 : P.1 15 ≤ 8) : RB t0 qc qna qdf G := by
  obtain ⟨h1, h2, ⟨f1, f2, f3, f4, f5, f6, f7, f8, f9⟩, h4, -⟩ := hR
  obtain ⟨⟨a1, a2⟩, ⟨b1, b2⟩, d⟩ := g4
  refine ⟨ad, tg, h1.sub (cnz_le P), h2, ⟨⟨f1, a1, a2⟩, ⟨f2, b1, b2⟩, f3, f4, f5, f6, f7, fun j hj => ?_, f9⟩, _, h4, by rw [rga_len]; omega⟩
  obtain ⟨v1, v2, v3, v4, v5⟩ := f8 j hj
  exact ⟨v1, v2, v3, v4, v5, d j hj, wb j hj⟩
theorem GO4.sm {G G' : PG} {ad : Nat → Nat → Nat} (h : GO4 G ad) (e : ∀ b k, k ≠ 2 → k ≠ 5 → G'.2.1 b k = G.2.1 b k) : GO4 G' ad := by
  obtain ⟨⟨a1, a2⟩, ⟨b1, b2⟩, d⟩ := h
  exact ⟨⟨by rw [e _ 7 (by decide) (by decide)]; exact a1, by rw [e _ 8 (by decide) (by decide)]; exact a2⟩, ⟨by rw [e _ 7 (by decide) (by decide)]; exact b1, by rw [e _ 8 (by decide) (by decide)]; exact b2⟩, fun j hj => by rw [e _ 4 (by decide) (by decide)]; exact d j hj⟩
/-- the desk's check: the first fault -/
def kck (ft gw gp : Nat → Int32) (nv : Nat → Nat) (P : PS) (f : Nat → Nat) : Option (Nat × Nat) := if (k_all ft gw gp nv (P.1 15) 0 P).1 = none then (fsc (clb (P.1 15) (P.1 15) 0 (dcs ((k_all ft gw gp nv (P.1 15) 0 P).2.2.2.2.1 44) (P.2.2.1 23) (P.1 15) 0 f)) (P.1 15) 0).map (fun c => (6, P.2.2.1 16 c)) else (k_all ft gw gp nv (P.1 15) 0 P).1
theorem d_Checker_check_0 : decode b_Checker_check 0 = .ok (.iconst 0, 1) := by decide +kernel
theorem d_Checker_check_1 : decode b_Checker_check 1 = .ok (.istore_n 1, 1) := by decide +kernel
theorem d_Checker_check_2 : decode b_Checker_check 2 = .ok (.iload_n 1, 1) := by decide +kernel
theorem d_Checker_check_3 : decode b_Checker_check 3 = .ok (.aload_n 0, 1) := by decide +kernel
theorem d_Checker_check_4 : decode b_Checker_check 4 = .ok (.getfield 29, 3) := by decide +kernel
theorem d_Checker_check_7 : decode b_Checker_check 7 = .ok (.invokevirtual 37, 3) := by decide +kernel
theorem d_Checker_check_10 : decode b_Checker_check 10 = .ok (.if_icmp .ge 76, 3) := by decide +kernel
theorem d_Checker_check_13 : decode b_Checker_check 13 = .ok (.aload_n 0, 1) := by decide +kernel
theorem d_Checker_check_14 : decode b_Checker_check 14 = .ok (.getfield 29, 3) := by decide +kernel
theorem d_Checker_check_17 : decode b_Checker_check 17 = .ok (.iload_n 1, 1) := by decide +kernel
theorem d_Checker_check_18 : decode b_Checker_check 18 = .ok (.invokevirtual 43, 3) := by decide +kernel
theorem d_Checker_check_21 : decode b_Checker_check 21 = .ok (.checkcast 8, 3) := by decide +kernel
theorem d_Checker_check_24 : decode b_Checker_check 24 = .ok (.astore_n 2, 1) := by decide +kernel
theorem d_Checker_check_25 : decode b_Checker_check 25 = .ok (.aload_n 0, 1) := by decide +kernel
theorem d_Checker_check_26 : decode b_Checker_check 26 = .ok (.aload_n 2, 1) := by decide +kernel
theorem d_Checker_check_27 : decode b_Checker_check 27 = .ok (.getfield 47, 3) := by decide +kernel
theorem d_Checker_check_30 : decode b_Checker_check 30 = .ok (.invokevirtual 51, 3) := by decide +kernel
theorem d_Checker_check_33 : decode b_Checker_check 33 = .ok (.aload_n 2, 1) := by decide +kernel
theorem d_Checker_check_34 : decode b_Checker_check 34 = .ok (.if_acmp .eq 19, 3) := by decide +kernel
theorem d_Checker_check_37 : decode b_Checker_check 37 = .ok (.aload_n 0, 1) := by decide +kernel
theorem d_Checker_check_38 : decode b_Checker_check 38 = .ok (.getfield 33, 3) := by decide +kernel
theorem d_Checker_check_41 : decode b_Checker_check 41 = .ok (.iconst 3, 1) := by decide +kernel
theorem d_Checker_check_42 : decode b_Checker_check 42 = .ok (.aload_n 2, 1) := by decide +kernel
theorem d_Checker_check_43 : decode b_Checker_check 43 = .ok (.getfield 47, 3) := by decide +kernel
theorem d_Checker_check_46 : decode b_Checker_check 46 = .ok (.getfield 57, 3) := by decide +kernel
theorem d_Checker_check_49 : decode b_Checker_check 49 = .ok (.invokevirtual 63, 3) := by decide +kernel
theorem d_Checker_check_52 : decode b_Checker_check 52 = .ok (.ireturn, 1) := by decide +kernel
theorem d_Checker_check_53 : decode b_Checker_check 53 = .ok (.aload_n 0, 1) := by decide +kernel
theorem d_Checker_check_54 : decode b_Checker_check 54 = .ok (.aload_n 2, 1) := by decide +kernel
theorem d_Checker_check_55 : decode b_Checker_check 55 = .ok (.invokevirtual 67, 3) := by decide +kernel
theorem d_Checker_check_58 : decode b_Checker_check 58 = .ok (.aload_n 0, 1) := by decide +kernel
theorem d_Checker_check_59 : decode b_Checker_check 59 = .ok (.aload_n 2, 1) := by decide +kernel
theorem d_Checker_check_60 : decode b_Checker_check 60 = .ok (.invokevirtual 71, 3) := by decide +kernel
theorem d_Checker_check_63 : decode b_Checker_check 63 = .ok (.ifCond .eq 11, 3) := by decide +kernel
theorem d_Checker_check_66 : decode b_Checker_check 66 = .ok (.aload_n 0, 1) := by decide +kernel
theorem d_Checker_check_67 : decode b_Checker_check 67 = .ok (.aload_n 2, 1) := by decide +kernel
theorem d_Checker_check_68 : decode b_Checker_check 68 = .ok (.invokevirtual 75, 3) := by decide +kernel
theorem d_Checker_check_71 : decode b_Checker_check 71 = .ok (.ifCond .ne 5, 3) := by decide +kernel
theorem d_Checker_check_74 : decode b_Checker_check 74 = .ok (.iconst 0, 1) := by decide +kernel
theorem d_Checker_check_75 : decode b_Checker_check 75 = .ok (.ireturn, 1) := by decide +kernel
theorem d_Checker_check_76 : decode b_Checker_check 76 = .ok (.aload_n 2, 1) := by decide +kernel
theorem d_Checker_check_77 : decode b_Checker_check 77 = .ok (.invokevirtual 78, 3) := by decide +kernel
theorem d_Checker_check_80 : decode b_Checker_check 80 = .ok (.iinc 1 1, 3) := by decide +kernel
theorem d_Checker_check_83 : decode b_Checker_check 83 = .ok (.goto (-81), 3) := by decide +kernel
theorem d_Checker_check_86 : decode b_Checker_check 86 = .ok (.aload_n 0, 1) := by decide +kernel
theorem d_Checker_check_87 : decode b_Checker_check 87 = .ok (.invokevirtual 81, 3) := by decide +kernel
theorem d_Checker_check_90 : decode b_Checker_check 90 = .ok (.ireturn, 1) := by decide +kernel
set_option maxHeartbeats 4000000 in
set_option maxRecDepth 100000 in
theorem lp_Checker_check {p : Program} {l : Launch} {e : Env} {s : State} {m : MethodId} {args : Array Value} {below : List Frame} {meth : Method} {c : Code} {Q : State → Prop} {A : Nat → Prop} {dC : Nat → ClassId} {dI : Nat → Nat → Nat} {cB cI cL cZ cC cO : ClassId} {t0 : Nat} {L : List Nat} {qx qc qf na df qi : Nat} {v0 v1 : Value} {ft tv gw gp : Nat → Int32} {nv : Nat → Nat} {T : Nat} {fk : Nat → Int32} {pp nn : Nat → Nat} {fh fl : Nat → Int64} {ad : Nat → Nat → Nat} {tg : Nat → Nat × Nat} {P : PS} {f : Nat → Nat} {F : Option (Nat × Nat) × PS} (hkc : KC ft tv gw gp nv T fk pp nn fh fl P) (hx : p.tables.exec = Jvm.exec) (hb : c.code = b_Checker_check) (hml : c.maxLocals = 3) (hown : s.vm.findClass R_Checker = some m.cls) (hts : ∀ w ∈ tb, w.before args s = true) (hA : ∀ q, s.heap.size ≤ q → A q) (hF : stF A s) (hE : stE A t0 s) (hK : va_K (dC, dI) cl [(cB, .byte), (cI, .int), (cL, .long), (cZ, .boolean), (cC, .char), (cO, .object "java/lang/Object")] s)
    (kx0 : ∀ (G : PG) (H : Heap) (locs : List Loc) (ls : Array Slot), F.1 = none → CKB t0 qc na df ft tv gp fh fl pp nn ad tg P L G F.2 (P.1 15) → va_P (dC, dI) cl ([(qx, .inr (5, [.ref qc, .ref qf, .ref na, .ref df, .ref qi])), (qf, .inr (2, [v0, v1])), (qi, .inl (cI, 8, .inl (nF f)))] ++ va_pl L (gE cO G)) H → va_D A ([(qx, .inr (5, [.ref qc, .ref qf, .ref na, .ref df, .ref qi])), (qf, .inr (2, [v0, v1])), (qi, .inl (cI, 8, .inl (nF f)))] ++ va_pl L (gE cO G)) → va_S A s.heap H locs → lv_has ls 3 [(0, .ref qx)] → W p l e (headSpec w_Checker_check { frames := 6, cells := 0, slots := 0, locals := 400 }).room s m args below meth c H locs 0 0 Q (F0 m 86 ls [])) (kx1 : ∀ (z : Nat) (G : PG) (H : Heap) (locs : List Loc) (ls : Array Slot), ¬ F.1 = none → fpt pp F.1 = some (3, some z) → RF t0 qc na df ft tv fh fl pp nn G ad tg P → gL L G → RB t0 qc na df G → va_P (dC, dI) cl ([(qx, .inr (5, [.ref qc, .ref qf, .ref na, .ref df, .ref qi])), (qf, .inr (2, [.int (nI 3), .int (oI (some z))])), (qi, .inl (cI, 8, .inl (nF f)))] ++ va_pl L (gE cO G)) H → va_D A ([(qx, .inr (5, [.ref qc, .ref qf, .ref na, .ref df, .ref qi])), (qf, .inr (2, [.int (nI 3), .int (oI (some z))])), (qi, .inl (cI, 8, .inl (nF f)))] ++ va_pl L (gE cO G)) → va_S A s.heap H locs → lv_has ls 3 [(0, .ref qx)] → W p l e (headSpec w_Checker_check { frames := 6, cells := 0, slots := 0, locals := 400 }).room s m args below meth c H locs 0 0 Q (F0 m 52 ls [.int (bI false)])) (kx2 : ∀ (u : (Value × Value) × PG) (H : Heap) (locs : List Loc) (ls : Array Slot), ¬ F.1 = none → u.1 = fpr (fpt pp F.1) v0 v1 → RF t0 qc na df ft tv fh fl pp nn u.2 ad tg P → gL L u.2 → RB t0 qc na df u.2 → va_P (dC, dI) cl ([(qx, .inr (5, [.ref qc, .ref qf, .ref na, .ref df, .ref qi])), (qf, .inr (2, [u.1.1, u.1.2])), (qi, .inl (cI, 8, .inl (nF f)))] ++ va_pl L (gE cO u.2)) H → va_D A ([(qx, .inr (5, [.ref qc, .ref qf, .ref na, .ref df, .ref qi])), (qf, .inr (2, [u.1.1, u.1.2])), (qi, .inl (cI, 8, .inl (nF f)))] ++ va_pl L (gE cO u.2)) → va_S A s.heap H locs → lv_has ls 3 [(0, .ref qx)] → W p l e (headSpec w_Checker_check { frames := 6, cells := 0, slots := 0, locals := 400 }).room s m args below meth c H locs 0 0 Q (F0 m 74 ls [])) :
    ∀ (k : Nat) (cn : Nat) (G : PG) (S : PS) (H : Heap) (locs : List Loc) (ls : Array Slot), P.1 15 < cn + k → cn ≤ P.1 15 → CKB t0 qc na df ft tv gp fh fl pp nn ad tg P L G S cn → k_all ft gw gp nv (P.1 15 - cn) cn S = F → va_P (dC, dI) cl ([(qx, .inr (5, [.ref qc, .ref qf, .ref na, .ref df, .ref qi])), (qf, .inr (2, [v0, v1])), (qi, .inl (cI, 8, .inl (nF f)))] ++ va_pl L (gE cO G)) H → va_D A ([(qx, .inr (5, [.ref qc, .ref qf, .ref na, .ref df, .ref qi])), (qf, .inr (2, [v0, v1])), (qi, .inl (cI, 8, .inl (nF f)))] ++ va_pl L (gE cO G)) → va_S A s.heap H locs → lv_has ls 3 [(0, .ref qx), (1, .int (nI cn))] → W p l e (headSpec w_Checker_check { frames := 6, cells := 0, slots := 0, locals := 400 }).room s m args below meth c H locs 0 0 Q (F0 m 2 ls []) := by
  intro k
  induction k with
  | zero =>
    intro cn G S H locs ls hk hj ckb hr hP hD hS hl
    exfalso; omega
  | succ k ih =>
    intro cn G S H locs ls hk hj ckb hr hP hD hS hl
    have ckb0 := ckb
    obtain ⟨hR, wb, hL, hkp, rs, frc, g4, ofc, gvn9, h44, loc9⟩ := ckb0
    have s15 : P.1 15 ≤ 8 := hkc.2.2.1.2.2.2.1.1
    have hlc : LSx t0 G qc (rga (ad 0) 0 (P.1 15)) := (fch_h hR hkc).1
    have hll : (rga (ad 0) 0 (P.1 15)).length = P.1 15 := by rw [rga_len]; omega
    refine lv_iload_n hx hb d_Checker_check_2 rfl (lv_at hl 1 rfl) ?_
    refine lv_aload_n hx hb d_Checker_check_3 rfl (lv_at hl 0 rfl) ?_
    refine va_get (D := (dC, dI)) (ci := 5) (v := .ref qc) (C := R_Checker) (T := F_Checker) (N := 5) hx hb hts i_Checker hown hK hP 0 rfl rfl 0 (by decide) (hts _ k_351) (fun _ h9 => h9) rfl d_Checker_check_4 ?_
    refine wd_i (cx := []) (wr := [(qx, .inr (5, [.ref qc, .ref qf, .ref na, .ref df, .ref qi])), (qf, .inr (2, [v0, v1])), (qi, .inl (cI, 8, .inl (nF f)))]) (pl := va_pl L (gE cO G)) (va_runV (As := []) (rest := [.int (nI cn)]) ⟨hx, hb, hml, hown, hts⟩ (p_List_size l dC dI cB cI cL cZ cC cO (G := G) qc t0 _ hL hlc.k.1) (cwV 0 hts (good_V k_687 k_325 k_326 k_7 k_327) rfl rfl rfl (by decide +kernel) ⟨Nat.le_of_ble_eq_true rfl, Nat.le_of_ble_eq_true rfl⟩) (wd_preV (ci := 4) (r := (R_List, F_List, 3)) hK hP hD hS hA hF hE [] (by decide) rfl rfl (pq_at (gL_m hL hlc.k.1 (by decide)) (gE_7 (G := G) hlc.k.1))) rfl rfl hl.1 rfl (lv_room (Nat.le_of_ble_eq_true rfl)) d_Checker_check_7 ⟨Nat.le_of_ble_eq_true rfl, Nat.le_of_ble_eq_true rfl⟩) hP hD hS hA [] [0, 1, 2] rfl rfl (by decide) (by decide) (fun r_2 _ H locs w_1 hP hD hS => ?_)
    have hP : va_P (dC, dI) cl ([(qx, .inr (5, [.ref qc, .ref qf, .ref na, .ref df, .ref qi])), (qf, .inr (2, [v0, v1])), (qi, .inl (cI, 8, .inl (nF f)))] ++ va_pl L (gE cO G)) H := hP
    have hD : va_D A ([(qx, .inr (5, [.ref qc, .ref qf, .ref na, .ref df, .ref qi])), (qf, .inr (2, [v0, v1])), (qi, .inl (cI, 8, .inl (nF f)))] ++ va_pl L (gE cO G)) := hD
    rw [hlc.k.2] at w_1
    subst w_1
    refine nv_icmp_ge (tgt := 86) hx hb (by omega) (by omega) d_Checker_check_10 (by decide) (fun c_3 => ?_) (fun c_3 => ?_)
    · have hq9 : (none, S) = F := by rw [← hr, k_all_u hkp, if_neg (by omega)]
      subst hq9
      have ej : cn = P.1 15 := by omega
      rw [ej] at ckb
      exact kx0 G H locs ls rfl ckb hP hD hS (lv_sub hl [0] rfl)
    · refine lv_aload_n hx hb d_Checker_check_13 rfl (lv_at hl 0 rfl) ?_
      refine va_get (D := (dC, dI)) (ci := 5) (v := .ref qc) (C := R_Checker) (T := F_Checker) (N := 5) hx hb hts i_Checker hown hK hP 0 rfl rfl 0 (by decide) (hts _ k_351) (fun _ h9 => h9) rfl d_Checker_check_14 ?_
      refine lv_iload_n hx hb d_Checker_check_17 rfl (lv_at hl 1 rfl) ?_
      obtain ⟨x, hxi⟩ : ∃ z, (rga (ad 0) 0 (P.1 15))[cn]? = some z := ⟨_, List.getElem?_eq_getElem (by omega)⟩
      refine wd_q (cx := []) (wr := [(qx, .inr (5, [.ref qc, .ref qf, .ref na, .ref df, .ref qi])), (qf, .inr (2, [v0, v1])), (qi, .inl (cI, 8, .inl (nF f)))]) (pl := va_pl L (gE cO G)) (va_runV (As := [.int (nI cn)]) (rest := []) ⟨hx, hb, hml, hown, hts⟩ (p_List_get l dC dI cB cI cL cZ cC cO (G := G) qc (cn) (rga (ad 0) 0 (P.1 15)) t0 _ hL hlc (by omega)) (cwV 1 hts (good_V k_688 k_329 k_330 k_7 k_331) rfl rfl rfl (by decide +kernel) ⟨Nat.le_of_ble_eq_true rfl, Nat.le_of_ble_eq_true rfl⟩) (wd_preV (ci := 4) (r := (R_List, F_List, 3)) hK hP hD hS hA hF hE [] (by decide) rfl rfl (pq_at (gL_m hL hlc.k.1 (by decide)) (gE_7 (G := G) hlc.k.1))) rfl rfl hl.1 rfl (lv_room (Nat.le_of_ble_eq_true rfl)) d_Checker_check_18 ⟨Nat.le_of_ble_eq_true rfl, Nat.le_of_ble_eq_true rfl⟩) hP hD hS hA [] [0, 1, 2] rfl rfl (by decide) (by decide) (fun r_5 _ H locs w_4 hP hD hS => ?_)
      have hP : va_P (dC, dI) cl ([(qx, .inr (5, [.ref qc, .ref qf, .ref na, .ref df, .ref qi])), (qf, .inr (2, [v0, v1])), (qi, .inl (cI, 8, .inl (nF f)))] ++ va_pl L (gE cO G)) H := hP
      have hD : va_D A ([(qx, .inr (5, [.ref qc, .ref qf, .ref na, .ref df, .ref qi])), (qf, .inr (2, [v0, v1])), (qi, .inl (cI, 8, .inl (nF f)))] ++ va_pl L (gE cO G)) := hD
      rw [hxi] at w_4
      subst w_4
      have hx9 : ad 0 cn = x := by rw [rga_get (by omega)] at hxi; rw [Nat.zero_add] at hxi; exact Option.some.inj hxi
      have hc : cn < P.1 15 := by omega
      obtain ⟨cc1, cc2, cc3, cc4, -⟩ := hR.2.2.2.2.1 cn hc
      obtain ⟨nm, hnm⟩ : ∃ z, z = ad 1 cn := ⟨_, rfl⟩
      rw [← hnm] at cc1 cc2
      rw [hx9] at cc1
      have k1c := k1_c (gw := gw) hR hkc hc
      rw [hx9] at k1c
      have tc := hkc.cn cn hc
      obtain ⟨fh1, fh2, fh3⟩ := fch_h hR hkc
      rw [k_all_u hkp, if_pos hc] at hr
      have rsp9 := CKB.rsp ckb hkc hc
      have k1e : k1 ft gw nv cn P = if q_any (fun k => m_like ft (P.2.2.1 8) (P.2.2.1 9) (P.2.2.1 16 k) (P.2.2.1 16 cn)) cn 0 (!decide (q_word gw 9 ft P (P.2.2.1 16 cn) = none)) = true then some (3, P.2.2.1 16 cn) else k1_pins ft nv cn P (P.2.2.1 17 (cn + 1) - P.2.2.1 17 cn) (P.2.2.1 17 cn) := rfl
      refine pq_cast (ci := 6) (C := R_Chip) (T := F_Chip) (N := 9) hx hb hown (hts _ k_689) (hF.2.2.2.2 _ (List.mem_of_getElem? (i := 4) rfl)) hK hP (gL_m hL cc1.1 (by decide)) (gE_6 (G := G) cc1.1) rfl d_Checker_check_21 ?_
      refine lv_astore_n (lv' := [(2, .ref x), (0, .ref qx), (1, .int (nI cn))]) hx hb d_Checker_check_24 rfl hl (by decide) rfl (fun ls hl => ?_)
      refine lv_aload_n hx hb d_Checker_check_25 rfl (lv_at hl 1 rfl) ?_
      refine lv_aload_n hx hb d_Checker_check_26 rfl (lv_at hl 0 rfl) ?_
      refine pq_get (D := (dC, dI)) (ci := 6) (v := .ref nm) (C := R_Chip) (T := F_Chip) (N := 9) hx hb hts i_Chip hown hK hP (gL_m hL cc1.1 (by decide)) (gE_6 (G := G) cc1.1) rfl 0 (by decide) (hts _ k_166) (fun _ h9 => h9) (congrArg (fun z9 => some (va_rf z9)) cc1.2.1) d_Checker_check_27 ?_
      refine wd_q (cx := [(qx, .inr (5, [.ref qc, .ref qf, .ref na, .ref df, .ref qi]))]) (wr := [(qf, .inr (2, [v0, v1])), (qi, .inl (cI, 8, .inl (nF f)))]) (pl := va_pl L (gE cO G)) (va_runV (As := [.ref nm]) (rest := []) ⟨hx, hb, hml, hown, hts⟩ (p_Checker_findChip l dC dI cB cI cL cZ cC cO qx qc qf na df qi nm (rga (ad 0) 0 (P.1 15)) t0 _ hL fh1 fh2 fh3 cc2.1) (cwV 1 hts (good_V k_690 k_692 s_Checker_findChip k_8 k_693) rfl rfl rfl (by decide +kernel) ⟨Nat.le_of_ble_eq_true rfl, Nat.le_of_ble_eq_true rfl⟩) (wd_preV (ci := 5) (r := (R_Checker, F_Checker, 5)) hK hP hD hS hA hF hE [0] (by decide) rfl rfl ⟨0, rfl⟩) rfl rfl hl.1 rfl (lv_room (Nat.le_of_ble_eq_true rfl)) d_Checker_check_30 ⟨Nat.le_of_ble_eq_true rfl, Nat.le_of_ble_eq_true rfl⟩) hP hD hS hA [0] [1, 2] rfl rfl (by decide) (by decide) (fun r_7 _ H locs w_6 hP hD hS => ?_)
      have hP : va_P (dC, dI) cl ([(qf, .inr (2, [v0, v1])), (qi, .inl (cI, 8, .inl (nF f))), (qx, .inr (5, [.ref qc, .ref qf, .ref na, .ref df, .ref qi]))] ++ va_pl L (gE cO G)) H := hP
      have hD : va_D A ([(qf, .inr (2, [v0, v1])), (qi, .inl (cI, 8, .inl (nF f))), (qx, .inr (5, [.ref qc, .ref qf, .ref na, .ref df, .ref qi]))] ++ va_pl L (gE cO G)) := hD
      rw [fch_cmp hR hkc.1 hkc.2.2.2.1 hkc.cn tc.2 tc.1 cc2] at w_6
      subst w_6
      refine lv_aload_n hx hb d_Checker_check_33 rfl (lv_at hl 0 rfl) ?_
      refine lv_acmp_eq (rx := ((q_chip ft gw P (P.2.2.1 16 cn)).map (cad ad))) (ry := some x) (tgt := 53) hx hb d_Checker_check_34 (by decide) (fun c_8 => ?_) (fun c_8 => ?_)
      · refine lv_aload_n hx hb d_Checker_check_53 rfl (lv_at hl 1 rfl) ?_
        refine lv_aload_n hx hb d_Checker_check_54 rfl (lv_at hl 0 rfl) ?_
        rw [if_neg (k1c.mp c_8)] at k1e
        refine wd_v (cx := [(qx, .inr (5, [.ref qc, .ref qf, .ref na, .ref df, .ref qi]))]) (wr := [(qf, .inr (2, [v0, v1])), (qi, .inl (cI, 8, .inl (nF f)))]) (pl := va_pl L (gE cO G)) (va_runV (As := [.ref x]) (rest := []) ⟨hx, hb, hml, hown, hts⟩ (p_Checker_resolve l dC dI cB cI cL cZ cC cO qx qc qf na df qi ft tv gw gp nv T fk pp nn fh fl ad tg P cn x _ (fi_0 (P.2.2.1 36 (cn + 1) - P.2.2.1 36 cn) (P.2.2.1 36 cn) S) t0 _ hkc hc hx9 rfl rsp9) (cwV 1 hts (good_V k_696 k_698 s_Checker_resolve k_8 k_699) rfl rfl rfl (by decide +kernel) ⟨Nat.le_of_ble_eq_true rfl, Nat.le_of_ble_eq_true rfl⟩) (wd_preV (ci := 5) (r := (R_Checker, F_Checker, 5)) hK hP hD hS hA hF hE [2] (by decide) rfl rfl ⟨2, rfl⟩) rfl rfl hl.1 rfl (lv_room (Nat.le_of_ble_eq_true rfl)) d_Checker_check_55 ⟨Nat.le_of_ble_eq_true rfl, Nat.le_of_ble_eq_true rfl⟩) hP hD hS hA [2] [0, 1] rfl rfl (by decide) (by decide) (fun u1 H locs w_9 hP hD hS => ?_)
        have hP : va_P (dC, dI) cl ([(qf, .inr (2, [v0, v1])), (qi, .inl (cI, 8, .inl (nF f))), (qx, .inr (5, [.ref qc, .ref qf, .ref na, .ref df, .ref qi]))] ++ va_pl L (gE cO u1)) H := hP
        have hD : va_D A ([(qf, .inr (2, [v0, v1])), (qi, .inl (cI, 8, .inl (nF f))), (qx, .inr (5, [.ref qc, .ref qf, .ref na, .ref df, .ref qi]))] ++ va_pl L (gE cO u1)) := hD
        have kso9 := CKB.kso ckb hkc hc w_9
        have rsr8 := w_9
        have rsr9 := w_9
        obtain ⟨hR1, wb1, hL1, rq1, -⟩ := rsr9
        refine lv_aload_n hx hb d_Checker_check_58 rfl (lv_at hl 1 rfl) ?_
        refine lv_aload_n hx hb d_Checker_check_59 rfl (lv_at hl 0 rfl) ?_
        have hL0 := hL
        have hL := hL1
        refine wd_i (cx := [(qx, .inr (5, [.ref qc, .ref qf, .ref na, .ref df, .ref qi])), (qf, .inr (2, [v0, v1]))]) (wr := [(qi, .inl (cI, 8, .inl (nF f)))]) (pl := va_pl L (gE cO u1)) (va_runV (As := [.ref x]) (rest := []) ⟨hx, hb, hml, hown, hts⟩ (p_Checker_checkPins l dC dI cB cI cL cZ cC cO qx qc qf na df qi v0 v1 ft tv gw gp nv T fk pp nn fh fl ad tg P cn x t0 _ hkc hR1 hL1 hc hx9) (cwV 1 hts (good_V k_718 k_720 s_Checker_checkPins k_8 k_721) rfl rfl rfl (by decide +kernel) ⟨Nat.le_of_ble_eq_true rfl, Nat.le_of_ble_eq_true rfl⟩) (wd_preV (ci := 5) (r := (R_Checker, F_Checker, 5)) hK hP hD hS hA hF hE [2, 0] (by decide) rfl rfl ⟨2, rfl⟩) rfl rfl hl.1 rfl (lv_room (Nat.le_of_ble_eq_true rfl)) d_Checker_check_60 ⟨Nat.le_of_ble_eq_true rfl, Nat.le_of_ble_eq_true rfl⟩) hP hD hS hA [2, 0] [1] rfl rfl (by decide) (by decide) (fun r_12 u2 H locs w_11 hP hD hS => ?_)
        have hP : va_P (dC, dI) cl ([(qi, .inl (cI, 8, .inl (nF f))), (qx, .inr (5, [.ref qc, .ref qf, .ref na, .ref df, .ref qi])), (qf, .inr (2, [u2.1, u2.2]))] ++ va_pl L (gE cO u1)) H := hP
        have hD : va_D A ([(qi, .inl (cI, 8, .inl (nF f))), (qx, .inr (5, [.ref qc, .ref qf, .ref na, .ref df, .ref qi])), (qf, .inr (2, [u2.1, u2.2]))] ++ va_pl L (gE cO u1)) := hD
        obtain ⟨r_12e, hu2⟩ := w_11
        rw [← k1e] at r_12e hu2
        subst r_12e
        refine nv_bif_eq (tgt := 74) hx hb d_Checker_check_63 (by decide) (fun c_13 => ?_) (fun c_13 => ?_)
        · have kn9 := of_decide_eq_false c_13
          obtain ⟨xk, hxk⟩ := Option.ne_none_iff_exists'.mp kn9
          rw [hxk] at hr hu2
          have hr : (some xk, S) = F := hr
          subst hr
          exact kx2 (u2, u1) H locs ls (fun q9 => by cases q9) hu2 hR1 hL1 (hR1.rb (g4.sm (fun b9 k9 e9 _ => rq1.2.1 b9 k9 e9)) wb1.2.2 s15) (hP.part [1, 2, 0] rfl) (hD.part [1, 2, 0] (by decide) rfl) hS (lv_sub hl [1] rfl)
        · have kn9 := of_decide_eq_true c_13
          rw [kn9] at hr hu2
          obtain ⟨ua, ub⟩ := u2
          cases hu2
          have hr : (if (kla ft gw gp P cn S).1 = none then k_all ft gw gp nv (P.1 15 - (cn + 1)) (cn + 1) (kla ft gw gp P cn S).2 else kla ft gw gp P cn S) = F := hr
          have hP : va_P (dC, dI) cl ([(qi, .inl (cI, 8, .inl (nF f))), (qx, .inr (5, [.ref qc, .ref qf, .ref na, .ref df, .ref qi])), (qf, .inr (2, [v0, v1]))] ++ va_pl L (gE cO u1)) H := hP
          have hD : va_D A ([(qi, .inl (cI, 8, .inl (nF f))), (qx, .inr (5, [.ref qc, .ref qf, .ref na, .ref df, .ref qi])), (qf, .inr (2, [v0, v1]))] ++ va_pl L (gE cO u1)) := hD
          refine lv_aload_n hx hb d_Checker_check_66 rfl (lv_at hl 1 rfl) ?_
          refine lv_aload_n hx hb d_Checker_check_67 rfl (lv_at hl 0 rfl) ?_
          refine wd_i (cx := [(qx, .inr (5, [.ref qc, .ref qf, .ref na, .ref df, .ref qi])), (qf, .inr (2, [v0, v1]))]) (wr := [(qi, .inl (cI, 8, .inl (nF f)))]) (pl := va_pl L (gE cO u1)) (va_runV (As := [.ref x]) (rest := []) ⟨hx, hb, hml, hown, hts⟩ (p_Checker_checkParts l dC dI cB cI cL cZ cC cO qx qc qf na df qi v0 v1 ft tv gw gp nv T fk pp nn fh fl ad tg P cn x u1 (rz 49 200 0 (fia ft gw gp P cn S)) t0 _ hkc hc hx9 kso9) (cwV 1 hts (good_V k_723 k_725 s_Checker_checkParts k_8 k_726) rfl rfl rfl (by decide +kernel) ⟨Nat.le_of_ble_eq_true rfl, Nat.le_of_ble_eq_true rfl⟩) (wd_preV (ci := 5) (r := (R_Checker, F_Checker, 5)) hK hP hD hS hA hF hE [1, 2] (by decide) rfl rfl ⟨1, rfl⟩) rfl rfl hl.1 rfl (lv_room (Nat.le_of_ble_eq_true rfl)) d_Checker_check_68 ⟨Nat.le_of_ble_eq_true rfl, Nat.le_of_ble_eq_true rfl⟩) hP hD hS hA [1, 2] [0] rfl rfl (by decide) (by decide) (fun r_15 u3 H locs w_14 hP hD hS => ?_)
          have hP : va_P (dC, dI) cl ([(qi, .inl (cI, 8, .inl (nF f))), (qx, .inr (5, [.ref qc, .ref qf, .ref na, .ref df, .ref qi])), (qf, .inr (2, [u3.1.1, u3.1.2]))] ++ va_pl L (gE cO u3.2)) H := hP
          have hD : va_D A ([(qi, .inl (cI, 8, .inl (nF f))), (qx, .inr (5, [.ref qc, .ref qf, .ref na, .ref df, .ref qi])), (qf, .inr (2, [u3.1.1, u3.1.2]))] ++ va_pl L (gE cO u3.2)) := hD
          obtain ⟨r_15e, hu3, hR3, ⟨hL3, wb3, lq3⟩, hk3⟩ := w_14
          subst r_15e
          refine nv_bif_ne (tgt := 76) hx hb d_Checker_check_71 (by decide) (fun c_16 => ?_) (fun c_16 => ?_)
          · have kn8 : (kla ft gw gp P cn S).1 = none := of_decide_eq_true c_16
            rw [if_pos kn8] at hr
            have kk3 := hk3 kn8
            have kn7 : (kl_parts ft gp cn (P.2.2.1 23 (cn + 1) - P.2.2.1 23 cn) (P.2.2.1 23 cn) (rz 49 200 0 (fia ft gw gp P cn S))).1 = none := kn8
            rw [kn7] at hu3
            obtain ⟨⟨ua3, ub3⟩, u3G⟩ := u3
            cases hu3
            have ckn := CKB.next ckb hkc hc rsr8 rfl kn7 kk3
            obtain ⟨cd1, cd2, cd3, cd4, -⟩ := hR3.2.2.2.2.1 cn hc
            rw [hx9] at cd1
            have hP : va_P (dC, dI) cl ([(qi, .inl (cI, 8, .inl (nF f))), (qx, .inr (5, [.ref qc, .ref qf, .ref na, .ref df, .ref qi])), (qf, .inr (2, [v0, v1]))] ++ va_pl L (gE cO u3G)) H := hP
            have hD : va_D A ([(qi, .inl (cI, 8, .inl (nF f))), (qx, .inr (5, [.ref qc, .ref qf, .ref na, .ref df, .ref qi])), (qf, .inr (2, [v0, v1]))] ++ va_pl L (gE cO u3G)) := hD
            refine lv_aload_n hx hb d_Checker_check_76 rfl (lv_at hl 0 rfl) ?_
            have hL := hL3
            have b17 := hkc.p17 hc
            have b36 := hkc.p36 hc
            have s18 : P.1 18 ≤ 8 * P.1 15 := hkc.2.2.1.2.2.2.1.2.1
            have s37 : P.1 37 ≤ 30 * P.1 15 := hkc.2.2.1.2.2.2.1.2.2.2.1
            refine wd_v (cx := []) (wr := [(qi, .inl (cI, 8, .inl (nF f))), (qx, .inr (5, [.ref qc, .ref qf, .ref na, .ref df, .ref qi])), (qf, .inr (2, [v0, v1]))]) (pl := va_pl L (gE cO u3G)) (va_runV (As := []) (rest := []) ⟨hx, hb, hml, hown, hts⟩ (p_Chip_setOffsets l dC dI cB cI cL cZ cC cO x (ad 2 cn) (ad 3 cn) (rga (ad 5) (P.2.2.1 17 cn) (P.2.2.1 17 (cn + 1))) (rga (ad 7) (P.2.2.1 36 cn) (P.2.2.1 36 (cn + 1))) t0 _ (by rw [rga_len]; omega) (by rw [rga_len]; omega) hL3 cd3 cd4 cd1.1 cd1.2.2.2.2.1 cd1.2.2.2.2.2.1 (fun w9 h9 => by obtain ⟨j9, j1, j2, rfl⟩ := rga_mem.mp h9; have v9 := (hR3.2.2.2.2.2.1 j9 (by omega)).1; exact ⟨v9.1, by rw [v9.2.2.1]; split <;> decide⟩) (fun w9 h9 => by obtain ⟨j9, j1, j2, rfl⟩ := rga_mem.mp h9; have v9 := (hR3.2.2.2.2.2.2.1 j9 (by omega)).1; exact ⟨v9.1, by rw [v9.2.2]; decide⟩)) (cwV 0 hts (good_V k_752 k_321 k_322 k_9 k_323) rfl rfl rfl (by decide +kernel) ⟨Nat.le_of_ble_eq_true rfl, Nat.le_of_ble_eq_true rfl⟩) (wd_preV (ci := 6) (r := (R_Chip, F_Chip, 9)) hK hP hD hS hA hF hE [] (by decide) rfl rfl (pq_at (gL_m hL cd1.1 (by decide)) (gE_6 (G := u3G) cd1.1))) rfl rfl hl.1 rfl (lv_room (Nat.le_of_ble_eq_true rfl)) d_Checker_check_77 ⟨Nat.le_of_ble_eq_true rfl, Nat.le_of_ble_eq_true rfl⟩) hP hD hS hA [] [0, 1, 2] rfl rfl (by decide) (by decide) (fun u4 H locs w_17 hP hD hS => ?_)
            have hP : va_P (dC, dI) cl ([(qi, .inl (cI, 8, .inl (nF f))), (qx, .inr (5, [.ref qc, .ref qf, .ref na, .ref df, .ref qi])), (qf, .inr (2, [v0, v1]))] ++ va_pl L (gE cO u4)) H := hP
            have hD : va_D A ([(qi, .inl (cI, 8, .inl (nF f))), (qx, .inr (5, [.ref qc, .ref qf, .ref na, .ref df, .ref qi])), (qf, .inr (2, [v0, v1]))] ++ va_pl L (gE cO u4)) := hD
            rw [← hx9] at w_17
            have w_17z : u4 = sta ad P cn u3G := w_17
            rw [← w_17z] at ckn
            refine lv_iinc (v := nI (cn + 1)) (lv' := [(1, .int (nI (cn + 1))), (2, .ref x), (0, .ref qx)]) hx hb d_Checker_check_80 hl (k := 2) rfl (nI_1 _) (by decide) rfl (fun ls hl => ?_)
            refine lv_goto (tgt := 2) hx hb d_Checker_check_83 (by decide) ?_
            exact ih (cn + 1) u4 (kla ft gw gp P cn S).2 H locs ls (by omega) (by omega) ckn hr (hP.part [1, 2, 0] rfl) (hD.part [1, 2, 0] (by decide) rfl) hS (lv_sub hl [2, 0] rfl)
          · have kn8 : ¬ (kla ft gw gp P cn S).1 = none := of_decide_eq_false c_16
            rw [if_neg kn8] at hr
            subst hr
            exact kx2 u3 H locs ls kn8 hu3 hR3 hL3 (hR3.rb (g4.sm (fun b9 k9 e9 f9 => (lq3.2.2.2.1 b9 k9 f9).trans (rq1.2.1 b9 k9 e9))) wb3.2.2 s15) (hP.part [1, 2, 0] rfl) (hD.part [1, 2, 0] (by decide) rfl) hS (lv_sub hl [1] rfl)
      · refine lv_aload_n hx hb d_Checker_check_37 rfl (lv_at hl 1 rfl) ?_
        refine va_get (D := (dC, dI)) (ci := 5) (v := .ref qf) (C := R_Checker) (T := F_Checker) (N := 5) hx hb hts i_Checker hown hK hP 2 rfl rfl 1 (by decide) (hts _ k_352) (fun _ h9 => h9) rfl d_Checker_check_38 ?_
        refine lv_iconst (v := nI 3) hx hb d_Checker_check_41 (by decide) ?_
        refine lv_aload_n hx hb d_Checker_check_42 rfl (lv_at hl 0 rfl) ?_
        refine pq_get (D := (dC, dI)) (ci := 6) (v := .ref nm) (C := R_Chip) (T := F_Chip) (N := 9) hx hb hts i_Chip hown hK hP (gL_m hL cc1.1 (by decide)) (gE_6 (G := G) cc1.1) rfl 0 (by decide) (hts _ k_166) (fun _ h9 => h9) (congrArg (fun z9 => some (va_rf z9)) cc1.2.1) d_Checker_check_43 ?_
        refine pq_get (D := (dC, dI)) (ci := 7) (v := .int (oI (some (pp (P.2.2.1 16 cn))))) (C := R_Name) (T := F_Name) (N := 3) hx hb hts i_Name hown hK hP (gL_m hL cc2.1 (by decide)) (gE_1 (G := G) cc2.1) rfl 2 (by decide) (hts _ k_150) (fun _ h9 => h9) (congrArg (fun z9 => some (Value.int (oI z9))) cc2.2.2.2) d_Checker_check_46 ?_
        refine we_i (cx := [(qf, .inr (2, [v0, v1]))]) (wr := [(qi, .inl (cI, 8, .inl (nF f))), (qx, .inr (5, [.ref qc, .ref qf, .ref na, .ref df, .ref qi]))]) (pl := va_pl L (gE cO G)) (va_runV (As := [.int (nI 3), .int (oI (some (pp (P.2.2.1 16 cn))))]) (rest := []) ⟨hx, hb, hml, hown, hts⟩ (c_Fault_note l dC dI cB cI cL cZ cC cO qf (nI 3) (oI (some (pp (P.2.2.1 16 cn)))) _ ) (cwV 2 hts (good_V k_695 k_534 k_535 k_3 k_536) rfl rfl rfl (by decide +kernel) ⟨Nat.le_of_ble_eq_true rfl, Nat.le_of_ble_eq_true rfl⟩) (wc_preV (k0 := 0) (ci := 2) (r := (R_Fault, F_Fault, 2)) hK hP hD hS hA hF [0] (by decide) rfl rfl rfl) rfl rfl hl.1 rfl (lv_room (Nat.le_of_ble_eq_true rfl)) d_Checker_check_49 ⟨Nat.le_of_ble_eq_true rfl, Nat.le_of_ble_eq_true rfl⟩) hP hD hS hA [0] [1, 2] rfl rfl (by decide) (by decide) (fun r_20 _ H locs w_19 hP hD hS => ?_)
        have hP : va_P (dC, dI) cl ([(qi, .inl (cI, 8, .inl (nF f))), (qx, .inr (5, [.ref qc, .ref qf, .ref na, .ref df, .ref qi])), (qf, .inr (2, [.int (nI 3), .int (oI (some (pp (P.2.2.1 16 cn))))]))] ++ va_pl L (gE cO G)) H := hP
        have hD : va_D A ([(qi, .inl (cI, 8, .inl (nF f))), (qx, .inr (5, [.ref qc, .ref qf, .ref na, .ref df, .ref qi])), (qf, .inr (2, [.int (nI 3), .int (oI (some (pp (P.2.2.1 16 cn))))]))] ++ va_pl L (gE cO G)) := hD
        subst w_19
        rw [if_pos (Decidable.not_not.mp (fun q9 => c_8 (k1c.mpr q9)))] at k1e
        rw [k1e] at hr
        have hr : (some (3, P.2.2.1 16 cn), S) = F := hr
        subst hr
        exact kx1 (pp (P.2.2.1 16 cn)) G H locs ls (fun q9 => by cases q9) rfl hR hL (hR.rb g4 wb.2.2 s15) (hP.part [1, 2, 0] rfl) (hD.part [1, 2, 0] (by decide) rfl) hS (lv_sub hl [1] rfl)
theorem decide_map {o : Option Nat} {f : Nat → Nat × Nat} : decide (o.map f = none) = decide (o = none) := by cases o <;> rfl
set_option maxHeartbeats 4000000 in
set_option maxRecDepth 100000 in
/-- check() -/
theorem p_Checker_check (l : Launch) (dC : Nat → ClassId) (dI : Nat → Nat → Nat) (cB cI cL cZ cC cO : ClassId) {L : List Nat} {G : PG} (qx qc qf na df qi : Nat) (v0 v1 : Value) (ft tv gw gp : Nat → Int32) (nv : Nat → Nat) (T : Nat) (fk : Nat → Int32) (pp nn : Nat → Nat) (fh fl : Nat → Int64) (ad : Nat → Nat → Nat) (tg : Nat → Nat × Nat) (P : PS) (f : Nat → Nat) (t0 sz : Nat) (hkc : KC ft tv gw gp nv T fk pp nn fh fl P) (ckb : CKB t0 qc na df ft tv gp fh fl pp nn ad tg P L G P 0) (hsm : sml f) : Met l y_Checker_check w_Checker_check ({ frames := 6, cells := 0, slots := 0, locals := 400 }) (va_Pc [.ref qx] (wB2 (dC, dI) cl [(cB, .byte), (cI, .int), (cL, .long), (cZ, .boolean), (cC, .char), (cO, .object "java/lang/Object")] sz t0 ([(qx, .inr (5, [.ref qc, .ref qf, .ref na, .ref df, .ref qi])), (qf, .inr (2, [v0, v1])), (qi, .inl (cI, 8, .inl (nF f)))] ++ va_pl L (gE cO G)))) (va_Qi (fun (r : Int32) (u : (Value × Value) × PG × (Nat → Nat)) => r = bI (decide ((kck ft gw gp nv P f) = none)) ∧ u.1 = fpr (fpt pp (kck ft gw gp nv P f)) v0 v1 ∧ RF t0 qc na df ft tv fh fl pp nn u.2.1 ad tg P ∧ gL L u.2.1 ∧ RB t0 qc na df u.2.1 ∧ sml u.2.2 ∧ ((kck ft gw gp nv P f) = none → CKB t0 qc na df ft tv gp fh fl pp nn ad tg P L u.2.1 (k_all ft gw gp nv (P.1 15) 0 P).2 (P.1 15))) (fun u t => wA (dC, dI) cl [(cB, .byte), (cI, .int), (cL, .long), (cZ, .boolean), (cC, .char), (cO, .object "java/lang/Object")] (va_A ([(qx, .inr (5, [.ref qc, .ref qf, .ref na, .ref df, .ref qi])), (qf, .inr (2, [v0, v1])), (qi, .inl (cI, 8, .inl (nF f)))] ++ va_pl L (gE cO G)) sz) ([(qx, .inr (5, [.ref qc, .ref qf, .ref na, .ref df, .ref qi])), (qf, .inr (2, [u.1.1, u.1.2])), (qi, .inl (cI, 8, .inl (nF u.2.2)))] ++ va_pl L (gE cO u.2.1)) t) (va_A ([(qx, .inr (5, [.ref qc, .ref qf, .ref na, .ref df, .ref qi])), (qf, .inr (2, [v0, v1])), (qi, .inl (cI, 8, .inl (nF f)))] ++ va_pl L (gE cO G)) sz)) 0 0 (va_A ([(qx, .inr (5, [.ref qc, .ref qf, .ref na, .ref df, .ref qi])), (qf, .inr (2, [v0, v1])), (qi, .inl (cI, 8, .inl (nF f)))] ++ va_pl L (gE cO G)) sz) := by
  refine Met.ofW (cc := b_Checker_check) (maxL := 3) (ret := (some ClassFile.FieldType.boolean)) (by decide) rfl ?_
  intro p e s m args below meth c s₁ B hml hv
  obtain ⟨rfl, ⟨hsz, hP, hK, hD0, hF⟩, hE⟩ := hv
  have hx := B.exec
  have hb := B.bytes
  have hr := B.returns
  have hts := atoms_spec (ws := w_Checker_check) B.pre
  have hts : ∀ w ∈ tb, w.before _ s = true := fun w h => hts w (List.mem_cons_of_mem _ h)
  have hown : s.vm.findClass R_Checker = some m.cls := findClass_of_methodNamed B.named
  have hlocks := B.notSynchronized
  subst hsz
  have hD := hD0.self (sz := s.heap.size)
  generalize hAe : va_A ([(qx, .inr (5, [.ref qc, .ref qf, .ref na, .ref df, .ref qi])), (qf, .inr (2, [v0, v1])), (qi, .inl (cI, 8, .inl (nF f)))] ++ va_pl L (gE cO G)) s.heap.size = A at hD hF hE ⊢
  have hA : ∀ q : Nat, s.heap.size ≤ q → A q := fun q h => by rw [← hAe]; exact Or.inr h
  have hS : va_S A s.heap s.heap [] := va_S.rf
  have hP : va_P (dC, dI) cl ([(qx, .inr (5, [.ref qc, .ref qf, .ref na, .ref df, .ref qi])), (qf, .inr (2, [v0, v1])), (qi, .inl (cI, 8, .inl (nF f)))] ++ va_pl L (gE cO G)) s.heap := hP
  have hl := lv_entry ([.ref qx]) (n := 3) (Nat.le_of_ble_eq_true rfl)
  rw [lg_entry_eq]
  generalize (lg_sl ([.ref qx]) ++ List.replicate (3 - (lg_sl ([.ref qx])).length) Slot.unset).toArray = ls at hl ⊢
  have hl : lv_has ls 3 [(0, .ref qx)] := hl
  refine lv_iconst (v := nI 0) hx hb d_Checker_check_0 (by decide) ?_
  refine lv_istore_n (lv' := [(1, .int (nI 0)), (0, .ref qx)]) hx hb d_Checker_check_1 rfl hl (by decide) rfl (fun ls hl => ?_)
  refine lp_Checker_check (F := (k_all ft gw gp nv (P.1 15) 0 P)) (f := f) hkc hx hb hml hown hts hA hF hE hK (fun G9 H locs ls hF9 ckb9 hP hD hS hl => ?_) (fun z G H locs ls hF9 hF8 hR9 hL9 hB9 hP hD hS hl => ?_) (fun u9 H locs ls hF9 hu9 hR9 hL9 hB9 hP hD hS hl => ?_) (P.1 15 + 1) 0 G P _ _ ls (by omega) (by omega) ckb rfl hP hD hS (lv_sub hl [1, 0] rfl)
  · have ekk : (kck ft gw gp nv P f) = (fsc (clb (P.1 15) (P.1 15) 0 (dcs ((k_all ft gw gp nv (P.1 15) 0 P).2.2.2.2.1 44) (P.2.2.1 23) (P.1 15) 0 f)) (P.1 15) 0).map (fun c => (6, P.2.2.1 16 c)) := by unfold kck; rw [if_pos hF9]
    have e23 : P.2.2.1 23 (P.1 15) = P.1 24 := hkc.2.2.1.2.2.2.2.2.1
    have sm9 : sml (clb (P.1 15) (P.1 15) 0 (dcs ((k_all ft gw gp nv (P.1 15) 0 P).2.2.2.2.1 44) (P.2.2.1 23) (P.1 15) 0 f)) := clb_s _ _ _ _ (dcs_s ckb9.2.2.2.2.2.2.2.2.2.1 _ _ _ hsm)
    have hL := ckb9.2.2.1
    refine lv_aload_n hx hb d_Checker_check_86 rfl (lv_at hl 0 rfl) ?_
    refine wd_i (cx := [(qx, .inr (5, [.ref qc, .ref qf, .ref na, .ref df, .ref qi])), (qf, .inr (2, [v0, v1])), (qi, .inl (cI, 8, .inl (nF f)))]) (wr := []) (pl := va_pl L (gE cO G9)) (va_runV (As := []) (rest := []) ⟨hx, hb, hml, hown, hts⟩ (p_Checker_checkRings l dC dI cB cI cL cZ cC cO qx qc qf na df qi v0 v1 ft tv gw gp nv T fk pp nn fh fl ad tg P (k_all ft gw gp nv (P.1 15) 0 P).2 f t0 _ hkc ckb9.1 ckb9.2.2.1 (fun q9 h9 => ckb9.2.2.2.2.1.1 q9 (by rw [e23]; exact h9)) ckb9.2.2.2.2.2.2.2.2.2.1 hsm) (cwV 0 hts (good_V k_753 k_755 s_Checker_checkRings k_8 k_756) rfl rfl rfl (by decide +kernel) ⟨Nat.le_of_ble_eq_true rfl, Nat.le_of_ble_eq_true rfl⟩) (wd_preV (ci := 5) (r := (R_Checker, F_Checker, 5)) hK hP hD hS hA hF hE [0, 1, 2] (by decide) rfl rfl ⟨0, rfl⟩) rfl rfl hl.1 rfl (lv_room (Nat.le_of_ble_eq_true rfl)) d_Checker_check_87 ⟨Nat.le_of_ble_eq_true rfl, Nat.le_of_ble_eq_true rfl⟩) hP hD hS hA [0, 1, 2] [] rfl rfl (by decide) (by decide) (fun r_2 u8 H locs w_1 hP hD hS => ?_)
    have hP : va_P (dC, dI) cl ([(qx, .inr (5, [.ref qc, .ref qf, .ref na, .ref df, .ref qi])), (qf, .inr (2, [u8.1, u8.2])), (qi, .inl (cI, 8, .inl (nF (clb (P.1 15) (P.1 15) 0 (dcs ((k_all ft gw gp nv (P.1 15) 0 P).2.2.2.2.1 44) (P.2.2.1 23) (P.1 15) 0 f)))))] ++ va_pl L (gE cO G9)) H := hP
    have hD : va_D A ([(qx, .inr (5, [.ref qc, .ref qf, .ref na, .ref df, .ref qi])), (qf, .inr (2, [u8.1, u8.2])), (qi, .inl (cI, 8, .inl (nF (clb (P.1 15) (P.1 15) 0 (dcs ((k_all ft gw gp nv (P.1 15) 0 P).2.2.2.2.1 44) (P.2.2.1 23) (P.1 15) 0 f)))))] ++ va_pl L (gE cO G9)) := hD
    obtain ⟨r_2e, hw8⟩ := w_1
    subst r_2e
    exact wr_z hx hb hr hlocks (u8, G9, (clb (P.1 15) (P.1 15) 0 (dcs ((k_all ft gw gp nv (P.1 15) 0 P).2.2.2.2.1 44) (P.2.2.1 23) (P.1 15) 0 f))) ⟨by rw [ekk, decide_map], by rw [ekk]; exact hw8, ckb9.1, ckb9.2.2.1, ckb9.1.rb ckb9.2.2.2.2.2.2.1 ckb9.2.1.2.2 hkc.2.2.1.2.2.2.1.1, sm9, fun _ => ckb9⟩ hK hP hD hS d_Checker_check_90
  · have ekk : (kck ft gw gp nv P f) = (k_all ft gw gp nv (P.1 15) 0 P).1 := by unfold kck; rw [if_neg hF9]
    exact wr_z (x := false) hx hb hr hlocks ((.int (nI 3), .int (oI (some z))), G, f) ⟨by rw [ekk, decide_eq_false hF9], by rw [ekk, hF8]; rfl, hR9, hL9, hB9, hsm, fun q9 => absurd (ekk ▸ q9) hF9⟩ hK hP hD hS d_Checker_check_52
  · have ekk : (kck ft gw gp nv P f) = (k_all ft gw gp nv (P.1 15) 0 P).1 := by unfold kck; rw [if_neg hF9]
    refine lv_iconst (v := nI 0) hx hb d_Checker_check_74 (by decide) ?_
    exact wr_z (x := false) hx hb hr hlocks (u9.1, u9.2, f) ⟨by rw [ekk, decide_eq_false hF9], by rw [ekk]; exact hu9, hR9, hL9, hB9, hsm, fun q9 => absurd (ekk ▸ q9) hF9⟩ hK hP hD hS d_Checker_check_75
