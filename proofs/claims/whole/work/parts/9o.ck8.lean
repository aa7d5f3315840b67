theorem d_Checker_checkPins_0 : decode b_Checker_checkPins 0 = .ok (.iconst 0, 1) := by decide +kernel
theorem d_Checker_checkPins_1 : decode b_Checker_checkPins 1 = .ok (.istore_n 2, 1) := by decide +kernel
theorem d_Checker_checkPins_2 : decode b_Checker_checkPins 2 = .ok (.iload_n 2, 1) := by decide +kernel
theorem d_Checker_checkPins_3 : decode b_Checker_checkPins 3 = .ok (.aload_n 1, 1) := by decide +kernel
theorem d_Checker_checkPins_4 : decode b_Checker_checkPins 4 = .ok (.getfield 103, 3) := by decide +kernel
theorem d_Checker_checkPins_7 : decode b_Checker_checkPins 7 = .ok (.invokevirtual 37, 3) := by decide +kernel
theorem d_Checker_checkPins_10 : decode b_Checker_checkPins 10 = .ok (.if_icmp .ge 73, 3) := by decide +kernel
theorem d_Checker_checkPins_13 : decode b_Checker_checkPins 13 = .ok (.aload_n 1, 1) := by decide +kernel
theorem d_Checker_checkPins_14 : decode b_Checker_checkPins 14 = .ok (.getfield 103, 3) := by decide +kernel
theorem d_Checker_checkPins_17 : decode b_Checker_checkPins 17 = .ok (.iload_n 2, 1) := by decide +kernel
theorem d_Checker_checkPins_18 : decode b_Checker_checkPins 18 = .ok (.invokevirtual 43, 3) := by decide +kernel
theorem d_Checker_checkPins_21 : decode b_Checker_checkPins 21 = .ok (.checkcast 129, 3) := by decide +kernel
theorem d_Checker_checkPins_24 : decode b_Checker_checkPins 24 = .ok (.astore_n 3, 1) := by decide +kernel
theorem d_Checker_checkPins_25 : decode b_Checker_checkPins 25 = .ok (.aload_n 1, 1) := by decide +kernel
theorem d_Checker_checkPins_26 : decode b_Checker_checkPins 26 = .ok (.getfield 103, 3) := by decide +kernel
theorem d_Checker_checkPins_29 : decode b_Checker_checkPins 29 = .ok (.aload_n 3, 1) := by decide +kernel
theorem d_Checker_checkPins_30 : decode b_Checker_checkPins 30 = .ok (.getfield 147, 3) := by decide +kernel
theorem d_Checker_checkPins_33 : decode b_Checker_checkPins 33 = .ok (.invokestatic 113, 3) := by decide +kernel
theorem d_Checker_checkPins_36 : decode b_Checker_checkPins 36 = .ok (.aload_n 3, 1) := by decide +kernel
theorem d_Checker_checkPins_37 : decode b_Checker_checkPins 37 = .ok (.if_acmp .eq 19, 3) := by decide +kernel
theorem d_Checker_checkPins_40 : decode b_Checker_checkPins 40 = .ok (.aload_n 0, 1) := by decide +kernel
theorem d_Checker_checkPins_41 : decode b_Checker_checkPins 41 = .ok (.getfield 33, 3) := by decide +kernel
theorem d_Checker_checkPins_44 : decode b_Checker_checkPins 44 = .ok (.iconst 3, 1) := by decide +kernel
theorem d_Checker_checkPins_45 : decode b_Checker_checkPins 45 = .ok (.aload_n 3, 1) := by decide +kernel
theorem d_Checker_checkPins_46 : decode b_Checker_checkPins 46 = .ok (.getfield 147, 3) := by decide +kernel
theorem d_Checker_checkPins_49 : decode b_Checker_checkPins 49 = .ok (.getfield 57, 3) := by decide +kernel
theorem d_Checker_checkPins_52 : decode b_Checker_checkPins 52 = .ok (.invokevirtual 63, 3) := by decide +kernel
theorem d_Checker_checkPins_55 : decode b_Checker_checkPins 55 = .ok (.ireturn, 1) := by decide +kernel
theorem d_Checker_checkPins_56 : decode b_Checker_checkPins 56 = .ok (.aload_n 3, 1) := by decide +kernel
theorem d_Checker_checkPins_57 : decode b_Checker_checkPins 57 = .ok (.getfield 148, 3) := by decide +kernel
theorem d_Checker_checkPins_60 : decode b_Checker_checkPins 60 = .ok (.iconst (-1), 1) := by decide +kernel
theorem d_Checker_checkPins_61 : decode b_Checker_checkPins 61 = .ok (.if_icmp .eq 16, 3) := by decide +kernel
theorem d_Checker_checkPins_64 : decode b_Checker_checkPins 64 = .ok (.aload_n 0, 1) := by decide +kernel
theorem d_Checker_checkPins_65 : decode b_Checker_checkPins 65 = .ok (.getfield 33, 3) := by decide +kernel
theorem d_Checker_checkPins_68 : decode b_Checker_checkPins 68 = .ok (.iconst 5, 1) := by decide +kernel
theorem d_Checker_checkPins_69 : decode b_Checker_checkPins 69 = .ok (.aload_n 3, 1) := by decide +kernel
theorem d_Checker_checkPins_70 : decode b_Checker_checkPins 70 = .ok (.getfield 148, 3) := by decide +kernel
theorem d_Checker_checkPins_73 : decode b_Checker_checkPins 73 = .ok (.invokevirtual 63, 3) := by decide +kernel
theorem d_Checker_checkPins_76 : decode b_Checker_checkPins 76 = .ok (.ireturn, 1) := by decide +kernel
theorem d_Checker_checkPins_77 : decode b_Checker_checkPins 77 = .ok (.iinc 2 1, 3) := by decide +kernel
theorem d_Checker_checkPins_80 : decode b_Checker_checkPins 80 = .ok (.goto (-78), 3) := by decide +kernel
theorem d_Checker_checkPins_83 : decode b_Checker_checkPins 83 = .ok (.iconst 1, 1) := by decide +kernel
theorem d_Checker_checkPins_84 : decode b_Checker_checkPins 84 = .ok (.ireturn, 1) := by decide +kernel
theorem pwd_lt {ft tv gw gp : Nat → Int32} {nv : Nat → Nat} {T : Nat} {fk : Nat → Int32} {pp nn : Nat → Nat} {fh fl : Nat → Int64} {P : PS} {p z : Nat} (h : KC ft tv gw gp nv T fk pp nn fh fl P) (hp : p < P.1 18) (e : (pwd nn pp (P.2.2.2.1 22 p)).2 = some z) : z < 2 ^ 31 := by
  rcases q : P.2.2.2.1 22 p with _ | t
  · rw [q] at e; cases e
  · rw [q] at e
    have e : (if nn t < 1 ∨ 16 < nn t then (1, some (pp t)) else (nn t, none) : Nat × Option Nat).2 = some z := e
    split at e
    · cases e
      have := (h.2.2.1.1.1.pk p hp).2.2.1 t q
      have := h.l12
      exact h.pp_lt (by omega)
    · cases e
set_option maxHeartbeats 4000000 in
set_option maxRecDepth 100000 in
theorem lp_Checker_checkPins {p : Program} {l : Launch} {e : Env} {s : State} {m : MethodId} {args : Array Value} {below : List Frame} {meth : Method} {c : Code} {Q : State → Prop} {A : Nat → Prop} {dC : Nat → ClassId} {dI : Nat → Nat → Nat} {cB cI cL cZ cC cO : ClassId} {t0 : Nat} {L : List Nat} {G : PG} {qx qc qf na df qi : Nat} {v0 v1 : Value} {ft tv gw gp : Nat → Int32} {nv : Nat → Nat} {T : Nat} {fk : Nat → Int32} {pp nn : Nat → Nat} {fh fl : Nat → Int64} {ad : Nat → Nat → Nat} {tg : Nat → Nat × Nat} {P : PS} {cn c0 lp : Nat} {F : Option (Nat × Nat)} (hkc : KC ft tv gw gp nv T fk pp nn fh fl P) (hR : RF t0 qc na df ft tv fh fl pp nn G ad tg P) (hL : gL L G) (hc : cn < P.1 15) (hc0 : ad 0 cn = c0) (hlp0 : ad 2 cn = lp) (hx : p.tables.exec = Jvm.exec) (hb : c.code = b_Checker_checkPins) (hml : c.maxLocals = 4) (hown : s.vm.findClass R_Checker = some m.cls) (hts : ∀ w ∈ tb, w.before args s = true) (hA : ∀ q, s.heap.size ≤ q → A q) (hF : stF A s) (hE : stE A t0 s) (hK : va_K (dC, dI) cl [(cB, .byte), (cI, .int), (cL, .long), (cZ, .boolean), (cC, .char), (cO, .object "java/lang/Object")] s)
    (kx0 : ∀  (H : Heap) (locs : List Loc) (ls : Array Slot), none = F → va_P (dC, dI) cl ([(qx, .inr (5, [.ref qc, .ref qf, .ref na, .ref df, .ref qi])), (qf, .inr (2, [v0, v1]))] ++ va_pl L (gE cO G)) H → va_D A ([(qx, .inr (5, [.ref qc, .ref qf, .ref na, .ref df, .ref qi])), (qf, .inr (2, [v0, v1]))] ++ va_pl L (gE cO G)) → va_S A s.heap H locs → lv_has ls 4 [(0, .ref qx), (1, .ref c0)] → W p l e (headSpec w_Checker_checkPins { frames := 4, cells := 0, slots := 0, locals := 220 }).room s m args below meth c H locs 0 0 Q (F0 m 83 ls [])) (kx1 : ∀ (z : Nat) (H : Heap) (locs : List Loc) (ls : Array Slot), fpt pp F = some (3, some z) → va_P (dC, dI) cl ([(qx, .inr (5, [.ref qc, .ref qf, .ref na, .ref df, .ref qi])), (qf, .inr (2, [.int (nI 3), .int (oI (some z))]))] ++ va_pl L (gE cO G)) H → va_D A ([(qx, .inr (5, [.ref qc, .ref qf, .ref na, .ref df, .ref qi])), (qf, .inr (2, [.int (nI 3), .int (oI (some z))]))] ++ va_pl L (gE cO G)) → va_S A s.heap H locs → lv_has ls 4 [(0, .ref qx), (1, .ref c0)] → W p l e (headSpec w_Checker_checkPins { frames := 4, cells := 0, slots := 0, locals := 220 }).room s m args below meth c H locs 0 0 Q (F0 m 55 ls [.int (bI false)])) (kx2 : ∀ (z : Nat) (H : Heap) (locs : List Loc) (ls : Array Slot), fpt pp F = some (5, some z) → va_P (dC, dI) cl ([(qx, .inr (5, [.ref qc, .ref qf, .ref na, .ref df, .ref qi])), (qf, .inr (2, [.int (nI 5), .int (oI (some z))]))] ++ va_pl L (gE cO G)) H → va_D A ([(qx, .inr (5, [.ref qc, .ref qf, .ref na, .ref df, .ref qi])), (qf, .inr (2, [.int (nI 5), .int (oI (some z))]))] ++ va_pl L (gE cO G)) → va_S A s.heap H locs → lv_has ls 4 [(0, .ref qx), (1, .ref c0)] → W p l e (headSpec w_Checker_checkPins { frames := 4, cells := 0, slots := 0, locals := 220 }).room s m args below meth c H locs 0 0 Q (F0 m 76 ls [.int (bI false)])) :
    ∀ (k : Nat) (j : Nat) (H : Heap) (locs : List Loc) (ls : Array Slot), P.2.2.1 17 (cn + 1) - P.2.2.1 17 cn < j + k → j ≤ P.2.2.1 17 (cn + 1) - P.2.2.1 17 cn → k1_pins ft nv cn P (P.2.2.1 17 (cn + 1) - (P.2.2.1 17 cn + j)) (P.2.2.1 17 cn + j) = F → va_P (dC, dI) cl ([(qx, .inr (5, [.ref qc, .ref qf, .ref na, .ref df, .ref qi])), (qf, .inr (2, [v0, v1]))] ++ va_pl L (gE cO G)) H → va_D A ([(qx, .inr (5, [.ref qc, .ref qf, .ref na, .ref df, .ref qi])), (qf, .inr (2, [v0, v1]))] ++ va_pl L (gE cO G)) → va_S A s.heap H locs → lv_has ls 4 [(0, .ref qx), (1, .ref c0), (2, .int (nI j))] → W p l e (headSpec w_Checker_checkPins { frames := 4, cells := 0, slots := 0, locals := 220 }).room s m args below meth c H locs 0 0 Q (F0 m 2 ls []) := by
  intro k
  induction k with
  | zero =>
    intro j H locs ls hk hj hr hP hD hS hl
    exfalso; omega
  | succ k ih =>
    intro j H locs ls hk hj hr hP hD hS hl
    have b17 := hkc.p17 hc
    have s18 : P.1 18 ≤ 8 * P.1 15 := hkc.2.2.1.2.2.2.1.2.1
    have s15 : P.1 15 ≤ 8 := hkc.2.2.1.2.2.2.1.1
    obtain ⟨cc1, -, cc3, -, -⟩ := hR.2.2.2.2.1 cn hc
    rw [hc0] at cc1
    rw [hlp0] at cc1 cc3
    have hll : (rga (ad 5) (P.2.2.1 17 cn) (P.2.2.1 17 (cn + 1))).length = P.2.2.1 17 (cn + 1) - P.2.2.1 17 cn := rga_len _ _ _
    have hxw : ∀ x ∈ (rga (ad 5) (P.2.2.1 17 cn) (P.2.2.1 17 (cn + 1))), G.1 x = 2 ∧ ∃ nm, G.2.2.2.2.2 x 0 = some nm ∧ G.1 nm = 1 := fun x hx => by
      obtain ⟨y, y1, y2, rfl⟩ := rga_mem.mp hx
      obtain ⟨v, t⟩ := hR.2.2.2.2.2.1 y (by omega)
      exact ⟨v.1, _, v.2.1, t.1⟩
    refine lv_iload_n hx hb d_Checker_checkPins_2 rfl (lv_at hl 2 rfl) ?_
    refine lv_aload_n hx hb d_Checker_checkPins_3 rfl (lv_at hl 1 rfl) ?_
    refine pq_get (D := (dC, dI)) (ci := 6) (v := .ref lp) (C := R_Chip) (T := F_Chip) (N := 9) hx hb hts i_Chip hown hK hP (gL_m hL cc1.1 (by decide)) (gE_6 (G := G) cc1.1) rfl 3 (by decide) (hts _ k_173) (fun _ h9 => h9) (congrArg (fun z9 => some (va_rf z9)) cc1.2.2.2.2.1) d_Checker_checkPins_4 ?_
    refine wd_i (cx := []) (wr := [(qx, .inr (5, [.ref qc, .ref qf, .ref na, .ref df, .ref qi])), (qf, .inr (2, [v0, v1]))]) (pl := va_pl L (gE cO G)) (va_runV (As := []) (rest := [.int (nI j)]) ⟨hx, hb, hml, hown, hts⟩ (p_List_size l dC dI cB cI cL cZ cC cO (G := G) lp t0 _ hL cc3.k.1) (cwV 0 hts (good_V k_687 k_325 k_326 k_7 k_327) rfl rfl rfl (by decide +kernel) ⟨Nat.le_of_ble_eq_true rfl, Nat.le_of_ble_eq_true rfl⟩) (wd_preV (ci := 4) (r := (R_List, F_List, 3)) hK hP hD hS hA hF hE [] (by decide) rfl rfl (pq_at (gL_m hL cc3.k.1 (by decide)) (gE_7 (G := G) cc3.k.1))) rfl rfl hl.1 rfl (lv_room (Nat.le_of_ble_eq_true rfl)) d_Checker_checkPins_7 ⟨Nat.le_of_ble_eq_true rfl, Nat.le_of_ble_eq_true rfl⟩) hP hD hS hA [] [0, 1] rfl rfl (by decide) (by decide) (fun r_2 _ H locs w_1 hP hD hS => ?_)
    have hP : va_P (dC, dI) cl ([(qx, .inr (5, [.ref qc, .ref qf, .ref na, .ref df, .ref qi])), (qf, .inr (2, [v0, v1]))] ++ va_pl L (gE cO G)) H := hP
    have hD : va_D A ([(qx, .inr (5, [.ref qc, .ref qf, .ref na, .ref df, .ref qi])), (qf, .inr (2, [v0, v1]))] ++ va_pl L (gE cO G)) := hD
    rw [cc3.k.2] at w_1
    subst w_1
    refine nv_icmp_ge (tgt := 83) hx hb (by omega) (by omega) d_Checker_checkPins_10 (by decide) (fun c_3 => ?_) (fun c_3 => ?_)
    · have hq : none = F := by rw [← hr, k1_pins_u, if_neg (by omega)]
      exact kx0 H locs ls hq hP hD hS (lv_sub hl [0, 1] rfl)
    · refine lv_aload_n hx hb d_Checker_checkPins_13 rfl (lv_at hl 1 rfl) ?_
      refine pq_get (D := (dC, dI)) (ci := 6) (v := .ref lp) (C := R_Chip) (T := F_Chip) (N := 9) hx hb hts i_Chip hown hK hP (gL_m hL cc1.1 (by decide)) (gE_6 (G := G) cc1.1) rfl 3 (by decide) (hts _ k_173) (fun _ h9 => h9) (congrArg (fun z9 => some (va_rf z9)) cc1.2.2.2.2.1) d_Checker_checkPins_14 ?_
      refine lv_iload_n hx hb d_Checker_checkPins_17 rfl (lv_at hl 2 rfl) ?_
      obtain ⟨x, hxi⟩ : ∃ z, (rga (ad 5) (P.2.2.1 17 cn) (P.2.2.1 17 (cn + 1)))[j]? = some z := ⟨_, List.getElem?_eq_getElem (by omega)⟩
      refine wd_q (cx := []) (wr := [(qx, .inr (5, [.ref qc, .ref qf, .ref na, .ref df, .ref qi])), (qf, .inr (2, [v0, v1]))]) (pl := va_pl L (gE cO G)) (va_runV (As := [.int (nI j)]) (rest := []) ⟨hx, hb, hml, hown, hts⟩ (p_List_get l dC dI cB cI cL cZ cC cO (G := G) lp (j) (rga (ad 5) (P.2.2.1 17 cn) (P.2.2.1 17 (cn + 1))) t0 _ hL cc3 (by omega)) (cwV 1 hts (good_V k_688 k_329 k_330 k_7 k_331) rfl rfl rfl (by decide +kernel) ⟨Nat.le_of_ble_eq_true rfl, Nat.le_of_ble_eq_true rfl⟩) (wd_preV (ci := 4) (r := (R_List, F_List, 3)) hK hP hD hS hA hF hE [] (by decide) rfl rfl (pq_at (gL_m hL cc3.k.1 (by decide)) (gE_7 (G := G) cc3.k.1))) rfl rfl hl.1 rfl (lv_room (Nat.le_of_ble_eq_true rfl)) d_Checker_checkPins_18 ⟨Nat.le_of_ble_eq_true rfl, Nat.le_of_ble_eq_true rfl⟩) hP hD hS hA [] [0, 1] rfl rfl (by decide) (by decide) (fun r_5 _ H locs w_4 hP hD hS => ?_)
      have hP : va_P (dC, dI) cl ([(qx, .inr (5, [.ref qc, .ref qf, .ref na, .ref df, .ref qi])), (qf, .inr (2, [v0, v1]))] ++ va_pl L (gE cO G)) H := hP
      have hD : va_D A ([(qx, .inr (5, [.ref qc, .ref qf, .ref na, .ref df, .ref qi])), (qf, .inr (2, [v0, v1]))] ++ va_pl L (gE cO G)) := hD
      rw [hxi] at w_4
      subst w_4
      obtain ⟨pn, hpn⟩ : ∃ z, z = (P.2.2.1 17 cn + j) := ⟨_, rfl⟩
      have hx9 : ad 5 pn = x := by rw [rga_get (by omega), ← hpn] at hxi; exact Option.some.inj hxi
      have hp : pn < P.1 18 := by omega
      obtain ⟨jv, jt⟩ := hR.2.2.2.2.2.1 pn hp
      obtain ⟨nm, hnm⟩ : ∃ z, z = ad 6 pn := ⟨_, rfl⟩
      rw [← hnm] at jv jt
      rw [hx9] at jv
      have ke := k1_e2 hR hkc hc (by omega) (by omega) jt
      rw [hx9] at ke
      rw [← hpn] at hr
      obtain ⟨bw, hbw⟩ : ∃ z, z = (pwd nn pp (P.2.2.2.1 22 pn)).2 := ⟨_, rfl⟩
      rw [← hbw] at jv ke
      have hbl : ∀ z, bw = some z → z < 2 ^ 31 := fun z hz => pwd_lt hkc hp (hbw ▸ hz)
      refine pq_cast (ci := 8) (C := R_Wire) (T := F_Wire) (N := 7) hx hb hown (hts _ k_722) (hF.2.2.2.2 _ (List.mem_of_getElem? (i := 3) rfl)) hK hP (gL_m hL jv.1 (by decide)) (gE_2 (G := G) jv.1) rfl d_Checker_checkPins_21 ?_
      refine lv_astore_n (lv' := [(3, .ref x), (0, .ref qx), (1, .ref c0), (2, .int (nI j))]) hx hb d_Checker_checkPins_24 rfl hl (by decide) rfl (fun ls hl => ?_)
      refine lv_aload_n hx hb d_Checker_checkPins_25 rfl (lv_at hl 2 rfl) ?_
      refine pq_get (D := (dC, dI)) (ci := 6) (v := .ref lp) (C := R_Chip) (T := F_Chip) (N := 9) hx hb hts i_Chip hown hK hP (gL_m hL cc1.1 (by decide)) (gE_6 (G := G) cc1.1) rfl 3 (by decide) (hts _ k_173) (fun _ h9 => h9) (congrArg (fun z9 => some (va_rf z9)) cc1.2.2.2.2.1) d_Checker_checkPins_26 ?_
      refine lv_aload_n hx hb d_Checker_checkPins_29 rfl (lv_at hl 0 rfl) ?_
      refine pq_get (D := (dC, dI)) (ci := 8) (v := .ref nm) (C := R_Wire) (T := F_Wire) (N := 7) hx hb hts i_Wire hown hK hP (gL_m hL jv.1 (by decide)) (gE_2 (G := G) jv.1) rfl 0 (by decide) (hts _ k_216) (fun _ h9 => h9) (congrArg (fun z9 => some (va_rf z9)) jv.2.1) d_Checker_checkPins_30 ?_
      refine wd_q (cx := []) (wr := [(qx, .inr (5, [.ref qc, .ref qf, .ref na, .ref df, .ref qi])), (qf, .inr (2, [v0, v1]))]) (pl := va_pl L (gE cO G)) (va_runS (As := [.ref lp, .ref nm]) (rest := []) ⟨hx, hb, hml, hown, hts⟩ (p_Chip_find l dC dI cB cI cL cZ cC cO lp nm (rga (ad 5) (P.2.2.1 17 cn) (P.2.2.1 17 (cn + 1))) t0 _ hL cc3 (by omega) hxw jt.1) (va_cwS 2 hts (good_S k_702 k_677 k_9 k_678) rfl rfl rfl (by decide +kernel) ⟨Nat.le_of_ble_eq_true rfl, Nat.le_of_ble_eq_true rfl⟩) (wd_preS hK hP hD hS hA hF hE [] (by decide) rfl) rfl rfl hl.1 rfl (lv_room (Nat.le_of_ble_eq_true rfl)) d_Checker_checkPins_33 ⟨Nat.le_of_ble_eq_true rfl, Nat.le_of_ble_eq_true rfl⟩) hP hD hS hA [] [0, 1] rfl rfl (by decide) (by decide) (fun r_7 _ H locs w_6 hP hD hS => ?_)
      have hP : va_P (dC, dI) cl ([(qx, .inr (5, [.ref qc, .ref qf, .ref na, .ref df, .ref qi])), (qf, .inr (2, [v0, v1]))] ++ va_pl L (gE cO G)) H := hP
      have hD : va_D A ([(qx, .inr (5, [.ref qc, .ref qf, .ref na, .ref df, .ref qi])), (qf, .inr (2, [v0, v1]))] ++ va_pl L (gE cO G)) := hD
      subst w_6
      refine lv_aload_n hx hb d_Checker_checkPins_36 rfl (lv_at hl 0 rfl) ?_
      refine lv_acmp_eq (rx := ((rga (ad 5) (P.2.2.1 17 cn) (P.2.2.1 17 (cn + 1))).find? (fsm G nm))) (ry := some x) (tgt := 56) hx hb d_Checker_checkPins_37 (by decide) (fun c_8 => ?_) (fun c_8 => ?_)
      · refine lv_aload_n hx hb d_Checker_checkPins_56 rfl (lv_at hl 0 rfl) ?_
        refine pq_get (D := (dC, dI)) (ci := 8) (v := .int (oI bw)) (C := R_Wire) (T := F_Wire) (N := 7) hx hb hts i_Wire hown hK hP (gL_m hL jv.1 (by decide)) (gE_2 (G := G) jv.1) rfl 3 (by decide) (hts _ k_226) (fun _ h9 => h9) (congrArg (fun z9 => some (Value.int (oI z9))) jv.2.2.2.2) d_Checker_checkPins_57 ?_
        refine lv_iconst (v := (-1)) hx hb d_Checker_checkPins_60 (by decide) ?_
        refine nv_oicmp_eq (tgt := 77) hx hb hbl d_Checker_checkPins_61 (by decide) (fun c_9 => ?_) (fun c_9 => ?_)
        · refine lv_iinc (v := nI (j + 1)) (lv' := [(2, .int (nI (j + 1))), (3, .ref x), (0, .ref qx), (1, .ref c0)]) hx hb d_Checker_checkPins_77 hl (k := 3) rfl (nI_1 _) (by decide) rfl (fun ls hl => ?_)
          refine lv_goto (tgt := 2) hx hb d_Checker_checkPins_80 (by decide) ?_
          rw [k1_pins_u _ pn, if_pos (by omega)] at hr
          rw [if_pos c_8, c_9] at ke
          rw [if_pos (fpt_none.mp ke)] at hr
          exact ih (j + 1) H locs ls (by omega) (by omega) (by rw [show P.2.2.1 17 cn + (j + 1) = pn + 1 by omega]; exact hr) hP hD hS (lv_sub hl [2, 3, 0] rfl)
        · refine lv_aload_n hx hb d_Checker_checkPins_64 rfl (lv_at hl 1 rfl) ?_
          refine va_get (D := (dC, dI)) (ci := 5) (v := .ref qf) (C := R_Checker) (T := F_Checker) (N := 5) hx hb hts i_Checker hown hK hP 0 rfl rfl 1 (by decide) (hts _ k_352) (fun _ h9 => h9) rfl d_Checker_checkPins_65 ?_
          refine lv_iconst (v := nI 5) hx hb d_Checker_checkPins_68 (by decide) ?_
          refine lv_aload_n hx hb d_Checker_checkPins_69 rfl (lv_at hl 0 rfl) ?_
          refine pq_get (D := (dC, dI)) (ci := 8) (v := .int (oI bw)) (C := R_Wire) (T := F_Wire) (N := 7) hx hb hts i_Wire hown hK hP (gL_m hL jv.1 (by decide)) (gE_2 (G := G) jv.1) rfl 3 (by decide) (hts _ k_226) (fun _ h9 => h9) (congrArg (fun z9 => some (Value.int (oI z9))) jv.2.2.2.2) d_Checker_checkPins_70 ?_
          refine we_i (cx := [(qf, .inr (2, [v0, v1]))]) (wr := [(qx, .inr (5, [.ref qc, .ref qf, .ref na, .ref df, .ref qi]))]) (pl := va_pl L (gE cO G)) (va_runV (As := [.int (nI 5), .int (oI bw)]) (rest := []) ⟨hx, hb, hml, hown, hts⟩ (c_Fault_note l dC dI cB cI cL cZ cC cO qf (nI 5) (oI bw) _ ) (cwV 2 hts (good_V k_695 k_534 k_535 k_3 k_536) rfl rfl rfl (by decide +kernel) ⟨Nat.le_of_ble_eq_true rfl, Nat.le_of_ble_eq_true rfl⟩) (wc_preV (k0 := 1) (ci := 2) (r := (R_Fault, F_Fault, 2)) hK hP hD hS hA hF [1] (by decide) rfl rfl rfl) rfl rfl hl.1 rfl (lv_room (Nat.le_of_ble_eq_true rfl)) d_Checker_checkPins_73 ⟨Nat.le_of_ble_eq_true rfl, Nat.le_of_ble_eq_true rfl⟩) hP hD hS hA [1] [0] rfl rfl (by decide) (by decide) (fun r_11 _ H locs w_10 hP hD hS => ?_)
          have hP : va_P (dC, dI) cl ([(qx, .inr (5, [.ref qc, .ref qf, .ref na, .ref df, .ref qi])), (qf, .inr (2, [.int (nI 5), .int (oI bw)]))] ++ va_pl L (gE cO G)) H := hP
          have hD : va_D A ([(qx, .inr (5, [.ref qc, .ref qf, .ref na, .ref df, .ref qi])), (qf, .inr (2, [.int (nI 5), .int (oI bw)]))] ++ va_pl L (gE cO G)) := hD
          subst w_10
          rw [k1_pins_u _ pn, if_pos (by omega)] at hr
          obtain ⟨bz, hbz⟩ := Option.ne_none_iff_exists'.mp c_9
          rw [if_pos c_8, hbz] at ke
          rw [hbz] at hP hD
          have hn9 : ¬ k1_pin ft nv cn pn P = none := fun q9 => by rw [fpt_none.mpr q9] at ke; cases ke
          rw [if_neg hn9] at hr
          rw [hr] at ke
          exact kx2 bz H locs ls ke hP hD hS (lv_sub hl [1, 2] rfl)
      · refine lv_aload_n hx hb d_Checker_checkPins_40 rfl (lv_at hl 1 rfl) ?_
        refine va_get (D := (dC, dI)) (ci := 5) (v := .ref qf) (C := R_Checker) (T := F_Checker) (N := 5) hx hb hts i_Checker hown hK hP 0 rfl rfl 1 (by decide) (hts _ k_352) (fun _ h9 => h9) rfl d_Checker_checkPins_41 ?_
        refine lv_iconst (v := nI 3) hx hb d_Checker_checkPins_44 (by decide) ?_
        refine lv_aload_n hx hb d_Checker_checkPins_45 rfl (lv_at hl 0 rfl) ?_
        refine pq_get (D := (dC, dI)) (ci := 8) (v := .ref nm) (C := R_Wire) (T := F_Wire) (N := 7) hx hb hts i_Wire hown hK hP (gL_m hL jv.1 (by decide)) (gE_2 (G := G) jv.1) rfl 0 (by decide) (hts _ k_216) (fun _ h9 => h9) (congrArg (fun z9 => some (va_rf z9)) jv.2.1) d_Checker_checkPins_46 ?_
        refine pq_get (D := (dC, dI)) (ci := 7) (v := .int (oI (some (pp (P.2.2.1 20 pn))))) (C := R_Name) (T := F_Name) (N := 3) hx hb hts i_Name hown hK hP (gL_m hL jt.1 (by decide)) (gE_1 (G := G) jt.1) rfl 2 (by decide) (hts _ k_150) (fun _ h9 => h9) (congrArg (fun z9 => some (Value.int (oI z9))) jt.2.2.2) d_Checker_checkPins_49 ?_
        refine we_i (cx := [(qf, .inr (2, [v0, v1]))]) (wr := [(qx, .inr (5, [.ref qc, .ref qf, .ref na, .ref df, .ref qi]))]) (pl := va_pl L (gE cO G)) (va_runV (As := [.int (nI 3), .int (oI (some (pp (P.2.2.1 20 pn))))]) (rest := []) ⟨hx, hb, hml, hown, hts⟩ (c_Fault_note l dC dI cB cI cL cZ cC cO qf (nI 3) (oI (some (pp (P.2.2.1 20 pn)))) _ ) (cwV 2 hts (good_V k_695 k_534 k_535 k_3 k_536) rfl rfl rfl (by decide +kernel) ⟨Nat.le_of_ble_eq_true rfl, Nat.le_of_ble_eq_true rfl⟩) (wc_preV (k0 := 1) (ci := 2) (r := (R_Fault, F_Fault, 2)) hK hP hD hS hA hF [1] (by decide) rfl rfl rfl) rfl rfl hl.1 rfl (lv_room (Nat.le_of_ble_eq_true rfl)) d_Checker_checkPins_52 ⟨Nat.le_of_ble_eq_true rfl, Nat.le_of_ble_eq_true rfl⟩) hP hD hS hA [1] [0] rfl rfl (by decide) (by decide) (fun r_13 _ H locs w_12 hP hD hS => ?_)
        have hP : va_P (dC, dI) cl ([(qx, .inr (5, [.ref qc, .ref qf, .ref na, .ref df, .ref qi])), (qf, .inr (2, [.int (nI 3), .int (oI (some (pp (P.2.2.1 20 pn))))]))] ++ va_pl L (gE cO G)) H := hP
        have hD : va_D A ([(qx, .inr (5, [.ref qc, .ref qf, .ref na, .ref df, .ref qi])), (qf, .inr (2, [.int (nI 3), .int (oI (some (pp (P.2.2.1 20 pn))))]))] ++ va_pl L (gE cO G)) := hD
        subst w_12
        rw [k1_pins_u _ pn, if_pos (by omega)] at hr
        rw [if_neg c_8] at ke
        have hn9 : ¬ k1_pin ft nv cn pn P = none := fun q9 => by rw [fpt_none.mpr q9] at ke; cases ke
        rw [if_neg hn9] at hr
        rw [hr] at ke
        exact kx1 (pp (P.2.2.1 20 pn)) H locs ls ke hP hD hS (lv_sub hl [1, 2] rfl)
set_option maxHeartbeats 4000000 in
set_option maxRecDepth 100000 in
/-- checkPins(chip) -/
theorem p_Checker_checkPins (l : Launch) (dC : Nat → ClassId) (dI : Nat → Nat → Nat) (cB cI cL cZ cC cO : ClassId) {L : List Nat} {G : PG} (qx qc qf na df qi : Nat) (v0 v1 : Value) (ft tv gw gp : Nat → Int32) (nv : Nat → Nat) (T : Nat) (fk : Nat → Int32) (pp nn : Nat → Nat) (fh fl : Nat → Int64) (ad : Nat → Nat → Nat) (tg : Nat → Nat × Nat) (P : PS) (cn c0 : Nat) (t0 sz : Nat) (hkc : KC ft tv gw gp nv T fk pp nn fh fl P) (hR : RF t0 qc na df ft tv fh fl pp nn G ad tg P) (hL : gL L G) (hc : cn < P.1 15) (hc0 : ad 0 cn = c0) : Met l y_Checker_checkPins w_Checker_checkPins ({ frames := 4, cells := 0, slots := 0, locals := 220 }) (va_Pc [.ref qx, .ref c0] (wB2 (dC, dI) cl [(cB, .byte), (cI, .int), (cL, .long), (cZ, .boolean), (cC, .char), (cO, .object "java/lang/Object")] sz t0 ([(qx, .inr (5, [.ref qc, .ref qf, .ref na, .ref df, .ref qi])), (qf, .inr (2, [v0, v1]))] ++ va_pl L (gE cO G)))) (va_Qi (fun (r : Int32) (u : Value × Value) => r = bI (decide ((k1_pins ft nv cn P (P.2.2.1 17 (cn + 1) - P.2.2.1 17 cn) (P.2.2.1 17 cn)) = none)) ∧ u = fpr (fpt pp (k1_pins ft nv cn P (P.2.2.1 17 (cn + 1) - P.2.2.1 17 cn) (P.2.2.1 17 cn))) v0 v1) (fun u t => wA (dC, dI) cl [(cB, .byte), (cI, .int), (cL, .long), (cZ, .boolean), (cC, .char), (cO, .object "java/lang/Object")] (va_A ([(qx, .inr (5, [.ref qc, .ref qf, .ref na, .ref df, .ref qi])), (qf, .inr (2, [v0, v1]))] ++ va_pl L (gE cO G)) sz) ([(qx, .inr (5, [.ref qc, .ref qf, .ref na, .ref df, .ref qi])), (qf, .inr (2, [u.1, u.2]))] ++ va_pl L (gE cO G)) t) (va_A ([(qx, .inr (5, [.ref qc, .ref qf, .ref na, .ref df, .ref qi])), (qf, .inr (2, [v0, v1]))] ++ va_pl L (gE cO G)) sz)) 0 0 (va_A ([(qx, .inr (5, [.ref qc, .ref qf, .ref na, .ref df, .ref qi])), (qf, .inr (2, [v0, v1]))] ++ va_pl L (gE cO G)) sz) := by
  refine Met.ofW (cc := b_Checker_checkPins) (maxL := 4) (ret := (some ClassFile.FieldType.boolean)) (by decide) rfl ?_
  intro p e s m args below meth c s₁ B hml hv
  obtain ⟨rfl, ⟨hsz, hP, hK, hD0, hF⟩, hE⟩ := hv
  have hx := B.exec
  have hb := B.bytes
  have hr := B.returns
  have hts := atoms_spec (ws := w_Checker_checkPins) B.pre
  have hts : ∀ w ∈ tb, w.before _ s = true := fun w h => hts w (List.mem_cons_of_mem _ h)
  have hown : s.vm.findClass R_Checker = some m.cls := findClass_of_methodNamed B.named
  have hlocks := B.notSynchronized
  subst hsz
  have hD := hD0.self (sz := s.heap.size)
  generalize hAe : va_A ([(qx, .inr (5, [.ref qc, .ref qf, .ref na, .ref df, .ref qi])), (qf, .inr (2, [v0, v1]))] ++ va_pl L (gE cO G)) s.heap.size = A at hD hF hE ⊢
  have hA : ∀ q : Nat, s.heap.size ≤ q → A q := fun q h => by rw [← hAe]; exact Or.inr h
  have hS : va_S A s.heap s.heap [] := va_S.rf
  have hP : va_P (dC, dI) cl ([(qx, .inr (5, [.ref qc, .ref qf, .ref na, .ref df, .ref qi])), (qf, .inr (2, [v0, v1]))] ++ va_pl L (gE cO G)) s.heap := hP
  have hl := lv_entry ([.ref qx, .ref c0]) (n := 4) (Nat.le_of_ble_eq_true rfl)
  rw [lg_entry_eq]
  generalize (lg_sl ([.ref qx, .ref c0]) ++ List.replicate (4 - (lg_sl ([.ref qx, .ref c0])).length) Slot.unset).toArray = ls at hl ⊢
  have hl : lv_has ls 4 [(0, .ref qx), (1, .ref c0)] := hl
  refine lv_iconst (v := nI 0) hx hb d_Checker_checkPins_0 (by decide) ?_
  refine lv_istore_n (lv' := [(2, .int (nI 0)), (0, .ref qx), (1, .ref c0)]) hx hb d_Checker_checkPins_1 rfl hl (by decide) rfl (fun ls hl => ?_)
  refine lp_Checker_checkPins (F := (k1_pins ft nv cn P (P.2.2.1 17 (cn + 1) - P.2.2.1 17 cn) (P.2.2.1 17 cn))) hkc hR hL hc hc0 rfl hx hb hml hown hts hA hF hE hK (fun H locs ls hq hP hD hS hl => ?_) (fun z H locs ls hq hP hD hS hl => ?_) (fun z H locs ls hq hP hD hS hl => ?_) (P.2.2.1 17 (cn + 1) - P.2.2.1 17 cn + 1) 0 _ _ ls (by omega) (by omega) rfl hP hD hS (lv_sub hl [1, 2, 0] rfl)
  · refine lv_iconst (v := nI 1) hx hb d_Checker_checkPins_83 (by decide) ?_
    exact wr_z (x := true) hx hb hr hlocks (v0, v1) ⟨by rw [← hq]; rfl, by rw [← hq]; rfl⟩ hK hP hD hS d_Checker_checkPins_84
  · exact wr_z (x := false) hx hb hr hlocks (.int (nI 3), .int (oI (some z))) ⟨by rw [decide_eq_false (fun q9 => by rw [fpt_none.mpr q9] at hq; cases hq)], by rw [hq]; rfl⟩ hK hP hD hS d_Checker_checkPins_55
  · exact wr_z (x := false) hx hb hr hlocks (.int (nI 5), .int (oI (some z))) ⟨by rw [decide_eq_false (fun q9 => by rw [fpt_none.mpr q9] at hq; cases hq)], by rw [hq]; rfl⟩ hK hP hD hS d_Checker_checkPins_76
