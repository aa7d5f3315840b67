theorem d_Checker_resolve_0 : decode b_Checker_resolve 0 = .ok (.iconst 0, 1) := by decide +kernel
theorem d_Checker_resolve_1 : decode b_Checker_resolve 1 = .ok (.istore_n 2, 1) := by decide +kernel
theorem d_Checker_resolve_2 : decode b_Checker_resolve 2 = .ok (.iload_n 2, 1) := by decide +kernel
theorem d_Checker_resolve_3 : decode b_Checker_resolve 3 = .ok (.aload_n 1, 1) := by decide +kernel
theorem d_Checker_resolve_4 : decode b_Checker_resolve 4 = .ok (.getfield 89, 3) := by decide +kernel
theorem d_Checker_resolve_7 : decode b_Checker_resolve 7 = .ok (.invokevirtual 37, 3) := by decide +kernel
theorem d_Checker_resolve_10 : decode b_Checker_resolve 10 = .ok (.if_icmp .ge 103, 3) := by decide +kernel
theorem d_Checker_resolve_13 : decode b_Checker_resolve 13 = .ok (.aload_n 1, 1) := by decide +kernel
theorem d_Checker_resolve_14 : decode b_Checker_resolve 14 = .ok (.getfield 89, 3) := by decide +kernel
theorem d_Checker_resolve_17 : decode b_Checker_resolve 17 = .ok (.iload_n 2, 1) := by decide +kernel
theorem d_Checker_resolve_18 : decode b_Checker_resolve 18 = .ok (.invokevirtual 43, 3) := by decide +kernel
theorem d_Checker_resolve_21 : decode b_Checker_resolve 21 = .ok (.checkcast 92, 3) := by decide +kernel
theorem d_Checker_resolve_24 : decode b_Checker_resolve 24 = .ok (.astore_n 3, 1) := by decide +kernel
theorem d_Checker_resolve_25 : decode b_Checker_resolve 25 = .ok (.aload_n 3, 1) := by decide +kernel
theorem d_Checker_resolve_26 : decode b_Checker_resolve 26 = .ok (.aload_n 0, 1) := by decide +kernel
theorem d_Checker_resolve_27 : decode b_Checker_resolve 27 = .ok (.aload_n 3, 1) := by decide +kernel
theorem d_Checker_resolve_28 : decode b_Checker_resolve 28 = .ok (.getfield 94, 3) := by decide +kernel
theorem d_Checker_resolve_31 : decode b_Checker_resolve 31 = .ok (.invokevirtual 51, 3) := by decide +kernel
theorem d_Checker_resolve_34 : decode b_Checker_resolve 34 = .ok (.putfield 95, 3) := by decide +kernel
theorem d_Checker_resolve_37 : decode b_Checker_resolve 37 = .ok (.iconst 0, 1) := by decide +kernel
theorem d_Checker_resolve_38 : decode b_Checker_resolve 38 = .ok (.istore 4, 2) := by decide +kernel
theorem d_Checker_resolve_40 : decode b_Checker_resolve 40 = .ok (.aload_n 3, 1) := by decide +kernel
theorem d_Checker_resolve_41 : decode b_Checker_resolve 41 = .ok (.getfield 95, 3) := by decide +kernel
theorem d_Checker_resolve_44 : decode b_Checker_resolve 44 = .ok (.ifnull 63, 3) := by decide +kernel
theorem d_Checker_resolve_47 : decode b_Checker_resolve 47 = .ok (.iload 4, 2) := by decide +kernel
theorem d_Checker_resolve_49 : decode b_Checker_resolve 49 = .ok (.aload_n 3, 1) := by decide +kernel
theorem d_Checker_resolve_50 : decode b_Checker_resolve 50 = .ok (.getfield 98, 3) := by decide +kernel
theorem d_Checker_resolve_53 : decode b_Checker_resolve 53 = .ok (.invokevirtual 37, 3) := by decide +kernel
theorem d_Checker_resolve_56 : decode b_Checker_resolve 56 = .ok (.if_icmp .ge 51, 3) := by decide +kernel
theorem d_Checker_resolve_59 : decode b_Checker_resolve 59 = .ok (.aload_n 3, 1) := by decide +kernel
theorem d_Checker_resolve_60 : decode b_Checker_resolve 60 = .ok (.getfield 98, 3) := by decide +kernel
theorem d_Checker_resolve_63 : decode b_Checker_resolve 63 = .ok (.iload 4, 2) := by decide +kernel
theorem d_Checker_resolve_65 : decode b_Checker_resolve 65 = .ok (.invokevirtual 43, 3) := by decide +kernel
theorem d_Checker_resolve_68 : decode b_Checker_resolve 68 = .ok (.checkcast 101, 3) := by decide +kernel
theorem d_Checker_resolve_71 : decode b_Checker_resolve 71 = .ok (.astore 5, 2) := by decide +kernel
theorem d_Checker_resolve_73 : decode b_Checker_resolve 73 = .ok (.aload 5, 2) := by decide +kernel
theorem d_Checker_resolve_75 : decode b_Checker_resolve 75 = .ok (.aload_n 3, 1) := by decide +kernel
theorem d_Checker_resolve_76 : decode b_Checker_resolve 76 = .ok (.getfield 95, 3) := by decide +kernel
theorem d_Checker_resolve_79 : decode b_Checker_resolve 79 = .ok (.getfield 103, 3) := by decide +kernel
theorem d_Checker_resolve_82 : decode b_Checker_resolve 82 = .ok (.aload 5, 2) := by decide +kernel
theorem d_Checker_resolve_84 : decode b_Checker_resolve 84 = .ok (.getfield 106, 3) := by decide +kernel
theorem d_Checker_resolve_87 : decode b_Checker_resolve 87 = .ok (.getfield 110, 3) := by decide +kernel
theorem d_Checker_resolve_90 : decode b_Checker_resolve 90 = .ok (.invokestatic 113, 3) := by decide +kernel
theorem d_Checker_resolve_93 : decode b_Checker_resolve 93 = .ok (.putfield 117, 3) := by decide +kernel
theorem d_Checker_resolve_96 : decode b_Checker_resolve 96 = .ok (.aload 5, 2) := by decide +kernel
theorem d_Checker_resolve_98 : decode b_Checker_resolve 98 = .ok (.invokestatic 121, 3) := by decide +kernel
theorem d_Checker_resolve_101 : decode b_Checker_resolve 101 = .ok (.iinc 4 1, 3) := by decide +kernel
theorem d_Checker_resolve_104 : decode b_Checker_resolve 104 = .ok (.goto (-64), 3) := by decide +kernel
theorem d_Checker_resolve_107 : decode b_Checker_resolve 107 = .ok (.iinc 2 1, 3) := by decide +kernel
theorem d_Checker_resolve_110 : decode b_Checker_resolve 110 = .ok (.goto (-108), 3) := by decide +kernel
theorem d_Checker_resolve_113 : decode b_Checker_resolve 113 = .ok (.return_, 1) := by decide +kernel
set_option maxHeartbeats 4000000 in
set_option maxRecDepth 100000 in
theorem lpi_Checker_resolve {p : Program} {l : Launch} {e : Env} {s : State} {m : MethodId} {args : Array Value} {below : List Frame} {meth : Method} {c : Code} {Q : State → Prop} {A : Nat → Prop} {dC : Nat → ClassId} {dI : Nat → Nat → Nat} {cB cI cL cZ cC cO : ClassId} {t0 : Nat} {L : List Nat} {G0 : PG} {qx qc qf na df qi : Nat} {ft tv gw gp : Nat → Int32} {nv : Nat → Nat} {T : Nat} {fk : Nat → Int32} {pp nn : Nat → Nat} {fh fl : Nat → Int64} {ad : Nat → Nat → Nat} {tg : Nat → Nat × Nat} {P : PS} {cn c0 q p0 pi i id lz ch lp : Nat} {F : PS} (hkc : KC ft tv gw gp nv T fk pp nn fh fl P) (hc : cn < P.1 15) (hc0 : ad 0 cn = c0) (hid : id = P.2.2.1 36 (cn + 1)) (hq1 : P.2.2.1 23 cn ≤ q) (hq2 : q < P.2.2.1 23 (cn + 1)) (hpi : pi < 1000) (hp0 : ad 9 q = p0) (hls : ad 11 q = lz) (hch : cad ad i = ch) (hlp : pxl ad i = lp) (hi2 : i < P.1 15 + 2) (hx : p.tables.exec = Jvm.exec) (hb : c.code = b_Checker_resolve) (hml : c.maxLocals = 6) (hown : s.vm.findClass R_Checker = some m.cls) (hts : ∀ w ∈ tb, w.before args s = true) (hA : ∀ q, s.heap.size ≤ q → A q) (hF : stF A s) (hE : stE A t0 s) (hK : va_K (dC, dI) cl [(cB, .byte), (cI, .int), (cL, .long), (cZ, .boolean), (cC, .char), (cO, .object "java/lang/Object")] s)
    (kx : ∀ (G : PG) (H : Heap) (locs : List Loc) (ls : Array Slot), RSP t0 qc na df ft tv gp fh fl pp nn ad tg P L id G0 G F (q + 1) (P.2.2.1 26 (q + 1)) → va_P (dC, dI) cl ([(qx, .inr (5, [.ref qc, .ref qf, .ref na, .ref df, .ref qi]))] ++ va_pl L (gE cO G)) H → va_D A ([(qx, .inr (5, [.ref qc, .ref qf, .ref na, .ref df, .ref qi]))] ++ va_pl L (gE cO G)) → va_S A s.heap H locs → lv_has ls 6 [(0, .ref qx), (1, .ref c0), (2, .int (nI pi))] → W p l e (headSpec w_Checker_resolve { frames := 4, cells := 0, slots := 0, locals := 220 }).room s m args below meth c H locs 0 0 Q (F0 m 107 ls [])) :
    ∀ (k : Nat) (j : Nat) (G : PG) (S : PS) (H : Heap) (locs : List Loc) (ls : Array Slot), P.2.2.1 26 (q + 1) - P.2.2.1 26 q < j + k → j ≤ P.2.2.1 26 (q + 1) - P.2.2.1 26 q → RSP t0 qc na df ft tv gp fh fl pp nn ad tg P L id G0 G S (q + 1) (P.2.2.1 26 q + j) → S.2.2.2.1 44 q = some i → fi_links ft gp cn i (P.2.2.1 26 (q + 1) - (P.2.2.1 26 q + j)) (P.2.2.1 26 q + j) S = F → va_P (dC, dI) cl ([(qx, .inr (5, [.ref qc, .ref qf, .ref na, .ref df, .ref qi]))] ++ va_pl L (gE cO G)) H → va_D A ([(qx, .inr (5, [.ref qc, .ref qf, .ref na, .ref df, .ref qi]))] ++ va_pl L (gE cO G)) → va_S A s.heap H locs → lv_has ls 6 [(0, .ref qx), (1, .ref c0), (2, .int (nI pi)), (3, .ref p0), (4, .int (nI j))] → W p l e (headSpec w_Checker_resolve { frames := 4, cells := 0, slots := 0, locals := 220 }).room s m args below meth c H locs 0 0 Q (F0 m 40 ls []) := by
  intro k
  induction k with
  | zero =>
    intro j G S H locs ls hk hj rsp h44 hr hP hD hS hl
    exfalso; omega
  | succ k ih =>
    intro j G S H locs ls hk hj rsp h44 hr hP hD hS hl
    have rsp0 := rsp
    obtain ⟨hR, wb, hL, hrq, hkp, rs⟩ := rsp0
    have hq : q < P.1 24 := by have := (hkc.p23 hc).2; omega
    have b26 := hkc.p26 hq
    have s27 : 3 * P.1 27 ≤ P.1 12 := hkc.2.2.1.2.2.2.1.2.2.2.2
    have l12 := hkc.l12
    have lT := hkc.1.1
    have kp0 : G.1 p0 = 5 := by rw [← hp0]; exact (hR.1 9 q hq).1
    have fp2 : G.2.2.2.2.2 p0 2 = some ch := by rw [← hp0, (rs.1 q (by omega)).1, h44, ← hch]; rfl
    obtain ⟨jq, -, hlk⟩ := hR.2.2.2.2.2.2.2.1 q hq
    have fp1 : G.2.2.2.2.2 p0 1 = some lz := by rw [← hp0, ← hls]; exact jq.2.2
    rw [hls] at hlk
    have hll : (rga (ad 12) (P.2.2.1 26 q) (P.2.2.1 26 (q + 1))).length = P.2.2.1 26 (q + 1) - P.2.2.1 26 q := rga_len _ _ _
    obtain ⟨kch, fc3, hpl, hpn, hpw⟩ := cad_f hR hkc hi2
    rw [hch] at kch fc3
    rw [hlp] at fc3 hpl
    refine lv_aload_n hx hb d_Checker_resolve_40 rfl (lv_at hl 3 rfl) ?_
    refine pq_get (D := (dC, dI)) (ci := 10) (v := .ref ch) (C := R_Part) (T := F_Part) (N := 3) hx hb hts i_Part hown hK hP (gL_m hL kp0 (by decide)) (gE_5 (G := G) kp0) rfl 2 (by decide) (hts _ k_590) (fun _ h9 => h9) (congrArg (fun z9 => some (va_rf z9)) fp2) d_Checker_resolve_41 ?_
    refine lv_ifnull hx hb d_Checker_resolve_44 ?_
    refine lv_iload hx hb d_Checker_resolve_47 (lv_at hl 4 rfl) ?_
    refine lv_aload_n hx hb d_Checker_resolve_49 rfl (lv_at hl 3 rfl) ?_
    refine pq_get (D := (dC, dI)) (ci := 10) (v := .ref lz) (C := R_Part) (T := F_Part) (N := 3) hx hb hts i_Part hown hK hP (gL_m hL kp0 (by decide)) (gE_5 (G := G) kp0) rfl 1 (by decide) (hts _ k_586) (fun _ h9 => h9) (congrArg (fun z9 => some (va_rf z9)) fp1) d_Checker_resolve_50 ?_
    refine wd_i (cx := []) (wr := [(qx, .inr (5, [.ref qc, .ref qf, .ref na, .ref df, .ref qi]))]) (pl := va_pl L (gE cO G)) (va_runV (As := []) (rest := [.int (nI j)]) ⟨hx, hb, hml, hown, hts⟩ (p_List_size l dC dI cB cI cL cZ cC cO (G := G) lz t0 _ hL hlk.k.1) (cwV 0 hts (good_V k_687 k_325 k_326 k_7 k_327) rfl rfl rfl (by decide +kernel) ⟨Nat.le_of_ble_eq_true rfl, Nat.le_of_ble_eq_true rfl⟩) (wd_preV (ci := 4) (r := (R_List, F_List, 3)) hK hP hD hS hA hF hE [] (by decide) rfl rfl (pq_at (gL_m hL hlk.k.1 (by decide)) (gE_7 (G := G) hlk.k.1))) rfl rfl hl.1 rfl (lv_room (Nat.le_of_ble_eq_true rfl)) d_Checker_resolve_53 ⟨Nat.le_of_ble_eq_true rfl, Nat.le_of_ble_eq_true rfl⟩) hP hD hS hA [] [0] rfl rfl (by decide) (by decide) (fun r_2 _ H locs w_1 hP hD hS => ?_)
    have hP : va_P (dC, dI) cl ([(qx, .inr (5, [.ref qc, .ref qf, .ref na, .ref df, .ref qi]))] ++ va_pl L (gE cO G)) H := hP
    have hD : va_D A ([(qx, .inr (5, [.ref qc, .ref qf, .ref na, .ref df, .ref qi]))] ++ va_pl L (gE cO G)) := hD
    rw [hlk.k.2] at w_1
    subst w_1
    refine nv_icmp_ge (tgt := 107) hx hb (by omega) (by omega) d_Checker_resolve_56 (by decide) (fun c_3 => ?_) (fun c_3 => ?_)
    · have hq9 : S = F := by rw [← hr, fi_links_u, if_neg (by omega)]
      subst hq9
      have ej : (P.2.2.1 26 q + j) = P.2.2.1 26 (q + 1) := by omega
      rw [ej] at rsp
      exact kx G H locs ls rsp hP hD hS (lv_sub hl [0, 1, 2] rfl)
    · refine lv_aload_n hx hb d_Checker_resolve_59 rfl (lv_at hl 3 rfl) ?_
      refine pq_get (D := (dC, dI)) (ci := 10) (v := .ref lz) (C := R_Part) (T := F_Part) (N := 3) hx hb hts i_Part hown hK hP (gL_m hL kp0 (by decide)) (gE_5 (G := G) kp0) rfl 1 (by decide) (hts _ k_586) (fun _ h9 => h9) (congrArg (fun z9 => some (va_rf z9)) fp1) d_Checker_resolve_60 ?_
      refine lv_iload hx hb d_Checker_resolve_63 (lv_at hl 4 rfl) ?_
      obtain ⟨x, hxi⟩ : ∃ z, (rga (ad 12) (P.2.2.1 26 q) (P.2.2.1 26 (q + 1)))[j]? = some z := ⟨_, List.getElem?_eq_getElem (by omega)⟩
      refine wd_q (cx := []) (wr := [(qx, .inr (5, [.ref qc, .ref qf, .ref na, .ref df, .ref qi]))]) (pl := va_pl L (gE cO G)) (va_runV (As := [.int (nI j)]) (rest := []) ⟨hx, hb, hml, hown, hts⟩ (p_List_get l dC dI cB cI cL cZ cC cO (G := G) lz (j) (rga (ad 12) (P.2.2.1 26 q) (P.2.2.1 26 (q + 1))) t0 _ hL hlk (by omega)) (cwV 1 hts (good_V k_688 k_329 k_330 k_7 k_331) rfl rfl rfl (by decide +kernel) ⟨Nat.le_of_ble_eq_true rfl, Nat.le_of_ble_eq_true rfl⟩) (wd_preV (ci := 4) (r := (R_List, F_List, 3)) hK hP hD hS hA hF hE [] (by decide) rfl rfl (pq_at (gL_m hL hlk.k.1 (by decide)) (gE_7 (G := G) hlk.k.1))) rfl rfl hl.1 rfl (lv_room (Nat.le_of_ble_eq_true rfl)) d_Checker_resolve_65 ⟨Nat.le_of_ble_eq_true rfl, Nat.le_of_ble_eq_true rfl⟩) hP hD hS hA [] [0] rfl rfl (by decide) (by decide) (fun r_5 _ H locs w_4 hP hD hS => ?_)
      have hP : va_P (dC, dI) cl ([(qx, .inr (5, [.ref qc, .ref qf, .ref na, .ref df, .ref qi]))] ++ va_pl L (gE cO G)) H := hP
      have hD : va_D A ([(qx, .inr (5, [.ref qc, .ref qf, .ref na, .ref df, .ref qi]))] ++ va_pl L (gE cO G)) := hD
      rw [hxi] at w_4
      subst w_4
      have hx9 : x = ad 12 (P.2.2.1 26 q + j) := by rw [rga_get (by omega)] at hxi; exact (Option.some.inj hxi).symm
      have hin : inl P cn q (P.2.2.1 26 q + j) := ⟨hc, ⟨hq1, hq2⟩, by omega, by omega⟩
      obtain ⟨y1, y2, y3, y4, y5, y6, y7, y8, y9⟩ := lnk_f hR hkc wb hin
      obtain ⟨s1, hs1⟩ : ∃ z, z = ad 13 (P.2.2.1 26 q + j) := ⟨_, rfl⟩
      obtain ⟨nl, hnl⟩ : ∃ z, z = ad 14 (P.2.2.1 26 q + j) := ⟨_, rfl⟩
      have tln := hkc.ln _ (hkc.inl hin).2
      have pnh := pin_h hR hkc wb hi2 tln.2.1 tln.1
      have rsl := RSP.link rsp hkc hin hid h44
      rw [← hs1] at y2 y3 y4 y6 y7 y8 rsl
      rw [← hnl] at y4 y5
      rw [← hx9] at y1 y2 y9 rsl
      refine pq_cast (ci := 12) (C := R_Link) (T := F_Link) (N := 4) hx hb hown (hts _ k_701) (hF.2.2.2.2 _ (List.mem_of_getElem? (i := 6) rfl)) hK hP (gL_m hL y1 (by decide)) (gE_4 (G := G) y1) rfl d_Checker_resolve_68 ?_
      refine lv_astore (lv' := [(5, .ref x), (0, .ref qx), (1, .ref c0), (2, .int (nI pi)), (3, .ref p0), (4, .int (nI j))]) hx hb d_Checker_resolve_71 hl (by decide) rfl (fun ls hl => ?_)
      refine lv_aload hx hb d_Checker_resolve_73 (lv_at hl 0 rfl) ?_
      refine lv_aload_n hx hb d_Checker_resolve_75 rfl (lv_at hl 4 rfl) ?_
      refine pq_get (D := (dC, dI)) (ci := 10) (v := .ref ch) (C := R_Part) (T := F_Part) (N := 3) hx hb hts i_Part hown hK hP (gL_m hL kp0 (by decide)) (gE_5 (G := G) kp0) rfl 2 (by decide) (hts _ k_590) (fun _ h9 => h9) (congrArg (fun z9 => some (va_rf z9)) fp2) d_Checker_resolve_76 ?_
      refine pq_get (D := (dC, dI)) (ci := 6) (v := .ref lp) (C := R_Chip) (T := F_Chip) (N := 9) hx hb hts i_Chip hown hK hP (gL_m hL kch (by decide)) (gE_6 (G := G) kch) rfl 3 (by decide) (hts _ k_173) (fun _ h9 => h9) (congrArg (fun z9 => some (va_rf z9)) fc3) d_Checker_resolve_79 ?_
      refine lv_aload hx hb d_Checker_resolve_82 (lv_at hl 0 rfl) ?_
      refine pq_get (D := (dC, dI)) (ci := 12) (v := .ref s1) (C := R_Link) (T := F_Link) (N := 4) hx hb hts i_Link hown hK hP (gL_m hL y1 (by decide)) (gE_4 (G := G) y1) rfl 0 (by decide) (hts _ k_653) (fun _ h9 => h9) (congrArg (fun z9 => some (va_rf z9)) y2) d_Checker_resolve_84 ?_
      refine pq_get (D := (dC, dI)) (ci := 11) (v := .ref nl) (C := R_Side) (T := F_Side) (N := 5) hx hb hts i_Side hown hK hP (gL_m hL y3 (by decide)) (gE_3 (G := G) y3) rfl 0 (by decide) (hts _ k_614) (fun _ h9 => h9) (congrArg (fun z9 => some (va_rf z9)) y4) d_Checker_resolve_87 ?_
      refine wd_q (cx := []) (wr := [(qx, .inr (5, [.ref qc, .ref qf, .ref na, .ref df, .ref qi]))]) (pl := va_pl L (gE cO G)) (va_runS (As := [.ref lp, .ref nl]) (rest := [.ref x]) ⟨hx, hb, hml, hown, hts⟩ (p_Chip_find l dC dI cB cI cL cZ cC cO lp nl (pxs ad P i) t0 _ hL hpl hpn hpw y5.1) (va_cwS 2 hts (good_S k_702 k_677 k_9 k_678) rfl rfl rfl (by decide +kernel) ⟨Nat.le_of_ble_eq_true rfl, Nat.le_of_ble_eq_true rfl⟩) (wd_preS hK hP hD hS hA hF hE [] (by decide) rfl) rfl rfl hl.1 rfl (lv_room (Nat.le_of_ble_eq_true rfl)) d_Checker_resolve_90 ⟨Nat.le_of_ble_eq_true rfl, Nat.le_of_ble_eq_true rfl⟩) hP hD hS hA [] [0] rfl rfl (by decide) (by decide) (fun r_7 _ H locs w_6 hP hD hS => ?_)
      have hP : va_P (dC, dI) cl ([(qx, .inr (5, [.ref qc, .ref qf, .ref na, .ref df, .ref qi]))] ++ va_pl L (gE cO G)) H := hP
      have hD : va_D A ([(qx, .inr (5, [.ref qc, .ref qf, .ref na, .ref df, .ref qi]))] ++ va_pl L (gE cO G)) := hD
      rw [pin_cmp hR hkc.1 hkc.2.2.2.2 hkc.pn (fun z9 => (hkc.p17 (c := i - 2) (by omega)).2) tln.2.1 tln.1 y5] at w_6
      subst w_6
      refine pq_put (D := (dC, dI)) (ci := 12) (v := va_rf ((q_pin ft gp P i (P.2.2.1 28 (P.2.2.1 26 q + j))).map (pad ad i))) (ty := .object "ChipDesk$Wire") (C := R_Link) (T := F_Link) (N := 4) hx hb hts i_Link t_Link t_Link_ok n_Link hown hK hP hD hS (gL_m hL y1 (by decide)) (gE_4 (G := G) y1) rfl 2 (by decide) (hts _ k_659) (fun _ h9 => h9) rfl (by decide +kernel) (by first | rfl | (cases ((q_pin ft gp P i (P.2.2.1 28 (P.2.2.1 26 q + j))).map (pad ad i)) <;> rfl)) (by first | rfl | (cases ((q_pin ft gp P i (P.2.2.1 28 (P.2.2.1 26 q + j))).map (pad ad i)) <;> rfl)) (Nat.le_of_ble_eq_true rfl) (uE_4_2 (G := G) (v := ((q_pin ft gp P i (P.2.2.1 28 (P.2.2.1 26 q + j))).map (pad ad i))) y1) d_Checker_resolve_93 (fun H locs hP hD hS => ?_)
      have hP : va_P (dC, dI) cl ([(qx, .inr (5, [.ref qc, .ref qf, .ref na, .ref df, .ref qi]))] ++ va_pl L (gE cO (gR G x 2 ((q_pin ft gp P i (P.2.2.1 28 (P.2.2.1 26 q + j))).map (pad ad i))))) H := hP
      have hD : va_D A ([(qx, .inr (5, [.ref qc, .ref qf, .ref na, .ref df, .ref qi]))] ++ va_pl L (gE cO (gR G x 2 ((q_pin ft gp P i (P.2.2.1 28 (P.2.2.1 26 q + j))).map (pad ad i))))) := hD
      refine lv_aload hx hb d_Checker_resolve_96 (lv_at hl 0 rfl) ?_
      refine wd_v (cx := []) (wr := [(qx, .inr (5, [.ref qc, .ref qf, .ref na, .ref df, .ref qi]))]) (pl := va_pl L (gE cO (gR G x 2 ((q_pin ft gp P i (P.2.2.1 28 (P.2.2.1 26 q + j))).map (pad ad i))))) (va_runS (As := [.ref x]) (rest := []) ⟨hx, hb, hml, hown, hts⟩ (p_Checker_giveInner l dC dI cB cI cL cZ cC cO (G := gR G x 2 ((q_pin ft gp P i (P.2.2.1 28 (P.2.2.1 26 q + j))).map (pad ad i))) x s1 t0 _ hL y1 ((up2_k _ _ _ _ (by decide)).trans y2) y3 y6 y7 y8 (fun p9 h9 => by have q9 := pnh p9 ((up2_s _ _ _ _).symm.trans h9); exact ⟨q9.1, q9.2.1, Nat.lt_of_le_of_lt q9.2.2.1 (by decide)⟩) (fun p9 h9 => by have q9 := y9 p9 ((up2_k _ _ _ _ (by decide)).symm.trans h9); exact ⟨q9.1, q9.2.1, Nat.lt_of_le_of_lt q9.2.2.1 (by decide)⟩)) (va_cwS 1 hts (good_S k_703 k_704 k_8 k_705) rfl rfl rfl (by decide +kernel) ⟨Nat.le_of_ble_eq_true rfl, Nat.le_of_ble_eq_true rfl⟩) (wd_preS hK hP hD hS hA hF hE [] (by decide) rfl) rfl rfl hl.1 rfl (lv_room (Nat.le_of_ble_eq_true rfl)) d_Checker_resolve_98 ⟨Nat.le_of_ble_eq_true rfl, Nat.le_of_ble_eq_true rfl⟩) hP hD hS hA [] [0] rfl rfl (by decide) (by decide) (fun u H locs w_8 hP hD hS => ?_)
      have hP : va_P (dC, dI) cl ([(qx, .inr (5, [.ref qc, .ref qf, .ref na, .ref df, .ref qi]))] ++ va_pl L (gE cO u)) H := hP
      have hD : va_D A ([(qx, .inr (5, [.ref qc, .ref qf, .ref na, .ref df, .ref qi]))] ++ va_pl L (gE cO u)) := hD
      rw [← w_8] at rsl
      refine lv_iinc (v := nI (j + 1)) (lv' := [(4, .int (nI (j + 1))), (5, .ref x), (0, .ref qx), (1, .ref c0), (2, .int (nI pi)), (3, .ref p0)]) hx hb d_Checker_resolve_101 hl (k := 5) rfl (nI_1 _) (by decide) rfl (fun ls hl => ?_)
      refine lv_goto (tgt := 40) hx hb d_Checker_resolve_104 (by decide) ?_
      exact ih (j + 1) u (fi_link ft gp cn i (P.2.2.1 26 q + j) S) H locs ls (by omega) (by omega) rsl.1 rsl.2 (by rw [← hr, fi_links_u ft gp cn i _ (P.2.2.1 26 q + j), if_pos (by omega)]; rfl) hP hD hS (lv_sub hl [2, 3, 4, 5, 0] rfl)
theorem fi_part_e {ft gw gp : Nat → Int32} {P S : PS} {c q : Nat} (hk : kp P S) : fi_part ft gw gp c q S = match q_chip ft gw P (P.2.2.1 25 q) with
  | none => fi_is ft gw q S
  | some i => fi_links ft gp c i (P.2.2.1 26 (q + 1) - P.2.2.1 26 q) (P.2.2.1 26 q) (fi_is ft gw q S) := by
  unfold fi_part
  rw [q_chip_kp hk, hk.2.1 25 (by decide) (by decide), hk.2.1 26 (by decide) (by decide)]
  rcases q_chip ft gw P (P.2.2.1 25 q) with _ | i <;> rfl
theorem fch_h {t0 qc qna qdf : Nat} {ft tv gw gp : Nat → Int32} {nv : Nat → Nat} {T : Nat} {fk : Nat → Int32} {pp nn : Nat → Nat} {fh fl : Nat → Int64} {G : PG} {ad : Nat → Nat → Nat} {tg : Nat → Nat × Nat} {P : PS} (hR : RF t0 qc qna qdf ft tv fh fl pp nn G ad tg P) (h : KC ft tv gw gp nv T fk pp nn fh fl P) : LSx t0 G qc (rga (ad 0) 0 (P.1 15)) ∧ (rga (ad 0) 0 (P.1 15)).length < 1000 ∧ ∀ x ∈ qna :: qdf :: rga (ad 0) 0 (P.1 15), G.1 x = 6 ∧ ∃ nm, G.2.2.2.2.2 x 0 = some nm ∧ G.1 nm = 1 := by
  obtain ⟨h1, ⟨h2, h3, h4⟩, hG, h6, h7, -⟩ := hR
  obtain ⟨g1, g2, g3, g4, -⟩ := hG
  have s := h.2.2.1.2.2.2.1.1
  refine ⟨by rw [← h2]; exact h6, by rw [rga_len]; omega, fun x hx => ?_⟩
  rcases List.mem_cons.mp hx with e | hx
  · rw [e, ← h3]; exact ⟨g1.1, _, g1.2.1, g3.1⟩
  rcases List.mem_cons.mp hx with e | hx
  · rw [e, ← h4]; exact ⟨g2.1, _, g2.2.1, g4.1⟩
  obtain ⟨j, -, j2, rfl⟩ := rga_mem.mp hx
  obtain ⟨a1, a2, -⟩ := h7 j j2
  exact ⟨a1.1, _, a1.2.1, a2.1⟩
set_option maxHeartbeats 4000000 in
set_option maxRecDepth 100000 in
theorem lpo_Checker_resolve {p : Program} {l : Launch} {e : Env} {s : State} {m : MethodId} {args : Array Value} {below : List Frame} {meth : Method} {c : Code} {Q : State → Prop} {A : Nat → Prop} {dC : Nat → ClassId} {dI : Nat → Nat → Nat} {cB cI cL cZ cC cO : ClassId} {t0 : Nat} {L : List Nat} {G0 : PG} {qx qc qf na df qi : Nat} {ft tv gw gp : Nat → Int32} {nv : Nat → Nat} {T : Nat} {fk : Nat → Int32} {pp nn : Nat → Nat} {fh fl : Nat → Int64} {ad : Nat → Nat → Nat} {tg : Nat → Nat × Nat} {P : PS} {cn c0 id lq : Nat} {F : PS} (hkc : KC ft tv gw gp nv T fk pp nn fh fl P) (hc : cn < P.1 15) (hc0 : ad 0 cn = c0) (hid : id = P.2.2.1 36 (cn + 1)) (hlq0 : ad 4 cn = lq) (hx : p.tables.exec = Jvm.exec) (hb : c.code = b_Checker_resolve) (hml : c.maxLocals = 6) (hown : s.vm.findClass R_Checker = some m.cls) (hts : ∀ w ∈ tb, w.before args s = true) (hA : ∀ q, s.heap.size ≤ q → A q) (hF : stF A s) (hE : stE A t0 s) (hK : va_K (dC, dI) cl [(cB, .byte), (cI, .int), (cL, .long), (cZ, .boolean), (cC, .char), (cO, .object "java/lang/Object")] s)
    (kx : ∀ (G : PG) (H : Heap) (locs : List Loc) (ls : Array Slot), RSP t0 qc na df ft tv gp fh fl pp nn ad tg P L id G0 G F (P.2.2.1 23 (cn + 1)) (P.2.2.1 26 (P.2.2.1 23 (cn + 1))) → va_P (dC, dI) cl ([(qx, .inr (5, [.ref qc, .ref qf, .ref na, .ref df, .ref qi]))] ++ va_pl L (gE cO G)) H → va_D A ([(qx, .inr (5, [.ref qc, .ref qf, .ref na, .ref df, .ref qi]))] ++ va_pl L (gE cO G)) → va_S A s.heap H locs → lv_has ls 6 [(0, .ref qx), (1, .ref c0)] → W p l e (headSpec w_Checker_resolve { frames := 4, cells := 0, slots := 0, locals := 220 }).room s m args below meth c H locs 0 0 Q (F0 m 113 ls [])) :
    ∀ (k : Nat) (pi : Nat) (G : PG) (S : PS) (H : Heap) (locs : List Loc) (ls : Array Slot), P.2.2.1 23 (cn + 1) - P.2.2.1 23 cn < pi + k → pi ≤ P.2.2.1 23 (cn + 1) - P.2.2.1 23 cn → RSP t0 qc na df ft tv gp fh fl pp nn ad tg P L id G0 G S (P.2.2.1 23 cn + pi) (P.2.2.1 26 (P.2.2.1 23 cn + pi)) → fi_parts ft gw gp cn (P.2.2.1 23 (cn + 1) - (P.2.2.1 23 cn + pi)) (P.2.2.1 23 cn + pi) S = F → va_P (dC, dI) cl ([(qx, .inr (5, [.ref qc, .ref qf, .ref na, .ref df, .ref qi]))] ++ va_pl L (gE cO G)) H → va_D A ([(qx, .inr (5, [.ref qc, .ref qf, .ref na, .ref df, .ref qi]))] ++ va_pl L (gE cO G)) → va_S A s.heap H locs → lv_has ls 6 [(0, .ref qx), (1, .ref c0), (2, .int (nI pi))] → W p l e (headSpec w_Checker_resolve { frames := 4, cells := 0, slots := 0, locals := 220 }).room s m args below meth c H locs 0 0 Q (F0 m 2 ls []) := by
  intro k
  induction k with
  | zero =>
    intro pi G S H locs ls hk hj rsp hr hP hD hS hl
    exfalso; omega
  | succ k ih =>
    intro pi G S H locs ls hk hj rsp hr hP hD hS hl
    obtain ⟨q, hqe⟩ : ∃ z, z = P.2.2.1 23 cn + pi := ⟨_, rfl⟩
    rw [← hqe] at rsp hr
    have rsp0 := rsp
    obtain ⟨hR, wb, hL, hrq, hkp, rs⟩ := rsp0
    have b23 := hkc.p23 hc
    have s24 : P.1 24 ≤ 12 * P.1 15 := hkc.2.2.1.2.2.2.1.2.2.1
    have s15 : P.1 15 ≤ 8 := hkc.2.2.1.2.2.2.1.1
    obtain ⟨cc1, -, -, -, cc5⟩ := hR.2.2.2.2.1 cn hc
    rw [hc0] at cc1
    rw [hlq0] at cc1 cc5
    have hll : (rga (ad 9) (P.2.2.1 23 cn) (P.2.2.1 23 (cn + 1))).length = P.2.2.1 23 (cn + 1) - P.2.2.1 23 cn := rga_len _ _ _
    refine lv_iload_n hx hb d_Checker_resolve_2 rfl (lv_at hl 2 rfl) ?_
    refine lv_aload_n hx hb d_Checker_resolve_3 rfl (lv_at hl 1 rfl) ?_
    refine pq_get (D := (dC, dI)) (ci := 6) (v := .ref lq) (C := R_Chip) (T := F_Chip) (N := 9) hx hb hts i_Chip hown hK hP (gL_m hL cc1.1 (by decide)) (gE_6 (G := G) cc1.1) rfl 5 (by decide) (hts _ k_179) (fun _ h9 => h9) (congrArg (fun z9 => some (va_rf z9)) cc1.2.2.2.2.2.2.1) d_Checker_resolve_4 ?_
    refine wd_i (cx := []) (wr := [(qx, .inr (5, [.ref qc, .ref qf, .ref na, .ref df, .ref qi]))]) (pl := va_pl L (gE cO G)) (va_runV (As := []) (rest := [.int (nI pi)]) ⟨hx, hb, hml, hown, hts⟩ (p_List_size l dC dI cB cI cL cZ cC cO (G := G) lq t0 _ hL cc5.k.1) (cwV 0 hts (good_V k_687 k_325 k_326 k_7 k_327) rfl rfl rfl (by decide +kernel) ⟨Nat.le_of_ble_eq_true rfl, Nat.le_of_ble_eq_true rfl⟩) (wd_preV (ci := 4) (r := (R_List, F_List, 3)) hK hP hD hS hA hF hE [] (by decide) rfl rfl (pq_at (gL_m hL cc5.k.1 (by decide)) (gE_7 (G := G) cc5.k.1))) rfl rfl hl.1 rfl (lv_room (Nat.le_of_ble_eq_true rfl)) d_Checker_resolve_7 ⟨Nat.le_of_ble_eq_true rfl, Nat.le_of_ble_eq_true rfl⟩) hP hD hS hA [] [0] rfl rfl (by decide) (by decide) (fun r_2 _ H locs w_1 hP hD hS => ?_)
    have hP : va_P (dC, dI) cl ([(qx, .inr (5, [.ref qc, .ref qf, .ref na, .ref df, .ref qi]))] ++ va_pl L (gE cO G)) H := hP
    have hD : va_D A ([(qx, .inr (5, [.ref qc, .ref qf, .ref na, .ref df, .ref qi]))] ++ va_pl L (gE cO G)) := hD
    rw [cc5.k.2] at w_1
    subst w_1
    refine nv_icmp_ge (tgt := 113) hx hb (by omega) (by omega) d_Checker_resolve_10 (by decide) (fun c_3 => ?_) (fun c_3 => ?_)
    · have hq9 : S = F := by rw [← hr, fi_parts_u, if_neg (by omega)]
      subst hq9
      have ej : q = P.2.2.1 23 (cn + 1) := by omega
      rw [ej] at rsp
      exact kx G H locs ls rsp hP hD hS (lv_sub hl [0, 1] rfl)
    · refine lv_aload_n hx hb d_Checker_resolve_13 rfl (lv_at hl 1 rfl) ?_
      refine pq_get (D := (dC, dI)) (ci := 6) (v := .ref lq) (C := R_Chip) (T := F_Chip) (N := 9) hx hb hts i_Chip hown hK hP (gL_m hL cc1.1 (by decide)) (gE_6 (G := G) cc1.1) rfl 5 (by decide) (hts _ k_179) (fun _ h9 => h9) (congrArg (fun z9 => some (va_rf z9)) cc1.2.2.2.2.2.2.1) d_Checker_resolve_14 ?_
      refine lv_iload_n hx hb d_Checker_resolve_17 rfl (lv_at hl 2 rfl) ?_
      obtain ⟨x, hxi⟩ : ∃ z, (rga (ad 9) (P.2.2.1 23 cn) (P.2.2.1 23 (cn + 1)))[pi]? = some z := ⟨_, List.getElem?_eq_getElem (by omega)⟩
      refine wd_q (cx := []) (wr := [(qx, .inr (5, [.ref qc, .ref qf, .ref na, .ref df, .ref qi]))]) (pl := va_pl L (gE cO G)) (va_runV (As := [.int (nI pi)]) (rest := []) ⟨hx, hb, hml, hown, hts⟩ (p_List_get l dC dI cB cI cL cZ cC cO (G := G) lq (pi) (rga (ad 9) (P.2.2.1 23 cn) (P.2.2.1 23 (cn + 1))) t0 _ hL cc5 (by omega)) (cwV 1 hts (good_V k_688 k_329 k_330 k_7 k_331) rfl rfl rfl (by decide +kernel) ⟨Nat.le_of_ble_eq_true rfl, Nat.le_of_ble_eq_true rfl⟩) (wd_preV (ci := 4) (r := (R_List, F_List, 3)) hK hP hD hS hA hF hE [] (by decide) rfl rfl (pq_at (gL_m hL cc5.k.1 (by decide)) (gE_7 (G := G) cc5.k.1))) rfl rfl hl.1 rfl (lv_room (Nat.le_of_ble_eq_true rfl)) d_Checker_resolve_18 ⟨Nat.le_of_ble_eq_true rfl, Nat.le_of_ble_eq_true rfl⟩) hP hD hS hA [] [0] rfl rfl (by decide) (by decide) (fun r_5 _ H locs w_4 hP hD hS => ?_)
      have hP : va_P (dC, dI) cl ([(qx, .inr (5, [.ref qc, .ref qf, .ref na, .ref df, .ref qi]))] ++ va_pl L (gE cO G)) H := hP
      have hD : va_D A ([(qx, .inr (5, [.ref qc, .ref qf, .ref na, .ref df, .ref qi]))] ++ va_pl L (gE cO G)) := hD
      rw [hxi] at w_4
      subst w_4
      have hx9 : ad 9 q = x := by rw [rga_get (by omega), ← hqe] at hxi; exact Option.some.inj hxi
      have hq : q < P.1 24 := by omega
      obtain ⟨jq, jt, -⟩ := hR.2.2.2.2.2.2.2.1 q hq
      obtain ⟨nm, hnm⟩ : ∃ z, z = ad 10 q := ⟨_, rfl⟩
      rw [← hnm] at jq jt
      rw [hx9] at jq
      obtain ⟨fh1, fh2, fh3⟩ := fch_h hR hkc
      have tq := hkc.qn q hq
      refine pq_cast (ci := 10) (C := R_Part) (T := F_Part) (N := 3) hx hb hown (hts _ k_700) (hF.2.2.2.2 _ (List.mem_of_getElem? (i := 5) rfl)) hK hP (gL_m hL jq.1 (by decide)) (gE_5 (G := G) jq.1) rfl d_Checker_resolve_21 ?_
      refine lv_astore_n (lv' := [(3, .ref x), (0, .ref qx), (1, .ref c0), (2, .int (nI pi))]) hx hb d_Checker_resolve_24 rfl hl (by decide) rfl (fun ls hl => ?_)
      refine lv_aload_n hx hb d_Checker_resolve_25 rfl (lv_at hl 0 rfl) ?_
      refine lv_aload_n hx hb d_Checker_resolve_26 rfl (lv_at hl 1 rfl) ?_
      refine lv_aload_n hx hb d_Checker_resolve_27 rfl (lv_at hl 0 rfl) ?_
      refine pq_get (D := (dC, dI)) (ci := 10) (v := .ref nm) (C := R_Part) (T := F_Part) (N := 3) hx hb hts i_Part hown hK hP (gL_m hL jq.1 (by decide)) (gE_5 (G := G) jq.1) rfl 0 (by decide) (hts _ k_584) (fun _ h9 => h9) (congrArg (fun z9 => some (va_rf z9)) jq.2.1) d_Checker_resolve_28 ?_
      refine wd_q (cx := [(qx, .inr (5, [.ref qc, .ref qf, .ref na, .ref df, .ref qi]))]) (wr := []) (pl := va_pl L (gE cO G)) (va_runV (As := [.ref nm]) (rest := [.ref x]) ⟨hx, hb, hml, hown, hts⟩ (p_Checker_findChip l dC dI cB cI cL cZ cC cO qx qc qf na df qi nm (rga (ad 0) 0 (P.1 15)) t0 _ hL fh1 fh2 fh3 jt.1) (cwV 1 hts (good_V k_690 k_692 s_Checker_findChip k_8 k_693) rfl rfl rfl (by decide +kernel) ⟨Nat.le_of_ble_eq_true rfl, Nat.le_of_ble_eq_true rfl⟩) (wd_preV (ci := 5) (r := (R_Checker, F_Checker, 5)) hK hP hD hS hA hF hE [0] (by decide) rfl rfl ⟨0, rfl⟩) rfl rfl hl.1 rfl (lv_room (Nat.le_of_ble_eq_true rfl)) d_Checker_resolve_31 ⟨Nat.le_of_ble_eq_true rfl, Nat.le_of_ble_eq_true rfl⟩) hP hD hS hA [0] [] rfl rfl (by decide) (by decide) (fun r_7 _ H locs w_6 hP hD hS => ?_)
      have hP : va_P (dC, dI) cl ([(qx, .inr (5, [.ref qc, .ref qf, .ref na, .ref df, .ref qi]))] ++ va_pl L (gE cO G)) H := hP
      have hD : va_D A ([(qx, .inr (5, [.ref qc, .ref qf, .ref na, .ref df, .ref qi]))] ++ va_pl L (gE cO G)) := hD
      rw [fch_cmp hR hkc.1 hkc.2.2.2.1 hkc.cn tq.2 tq.1 jt] at w_6
      subst w_6
      refine pq_put (D := (dC, dI)) (ci := 10) (v := va_rf ((q_chip ft gw P (P.2.2.1 25 q)).map (cad ad))) (ty := .object "ChipDesk$Chip") (C := R_Part) (T := F_Part) (N := 3) hx hb hts i_Part t_Part t_Part_ok n_Part hown hK hP hD hS (gL_m hL jq.1 (by decide)) (gE_5 (G := G) jq.1) rfl 2 (by decide) (hts _ k_590) (fun _ h9 => h9) rfl (by decide +kernel) (by first | rfl | (cases ((q_chip ft gw P (P.2.2.1 25 q)).map (cad ad)) <;> rfl)) (by first | rfl | (cases ((q_chip ft gw P (P.2.2.1 25 q)).map (cad ad)) <;> rfl)) (Nat.le_of_ble_eq_true rfl) (uE_5_2 (G := G) (v := ((q_chip ft gw P (P.2.2.1 25 q)).map (cad ad))) jq.1) d_Checker_resolve_34 (fun H locs hP hD hS => ?_)
      have hP : va_P (dC, dI) cl ([(qx, .inr (5, [.ref qc, .ref qf, .ref na, .ref df, .ref qi]))] ++ va_pl L (gE cO (gR G x 2 ((q_chip ft gw P (P.2.2.1 25 q)).map (cad ad))))) H := hP
      have hD : va_D A ([(qx, .inr (5, [.ref qc, .ref qf, .ref na, .ref df, .ref qi]))] ++ va_pl L (gE cO (gR G x 2 ((q_chip ft gw P (P.2.2.1 25 q)).map (cad ad))))) := hD
      refine lv_iconst (v := nI 0) hx hb d_Checker_resolve_37 (by decide) ?_
      refine lv_istore (lv' := [(4, .int (nI 0)), (3, .ref x), (0, .ref qx), (1, .ref c0), (2, .int (nI pi))]) hx hb d_Checker_resolve_38 hl (by decide) rfl (fun ls hl => ?_)
      have rsq := RSP.part rsp hkc hq (Nat.le_refl _)
      rw [hx9] at rsq
      rcases hqc : q_chip ft gw P (P.2.2.1 25 q) with _ | i
      · have fx2 : (gR G x 2 ((q_chip ft gw P (P.2.2.1 25 q)).map (cad ad))).2.2.2.2.2 x 2 = none := (up2_s _ _ _ _).trans (by rw [hqc]; rfl)
        refine lv_aload_n hx hb d_Checker_resolve_40 rfl (lv_at hl 1 rfl) ?_
        refine pq_get (D := (dC, dI)) (ci := 10) (v := .null) (C := R_Part) (T := F_Part) (N := 3) hx hb hts i_Part hown hK hP (gL_m hL jq.1 (by decide)) (gE_5 (G := (gR G x 2 ((q_chip ft gw P (P.2.2.1 25 q)).map (cad ad)))) jq.1) rfl 2 (by decide) (hts _ k_590) (fun _ h9 => h9) (congrArg (fun z9 => some (va_rf z9)) fx2) d_Checker_resolve_41 ?_
        refine lv_ifnullN (tgt := 107) hx hb d_Checker_resolve_44 (by decide) ?_
        refine lv_iinc (v := nI (pi + 1)) (lv' := [(2, .int (nI (pi + 1))), (4, .int (nI 0)), (3, .ref x), (0, .ref qx), (1, .ref c0)]) hx hb d_Checker_resolve_107 hl (k := 4) rfl (nI_1 _) (by decide) rfl (fun ls hl => ?_)
        refine lv_goto (tgt := 2) hx hb d_Checker_resolve_110 (by decide) ?_
        exact ih (pi + 1) (gR G x 2 ((q_chip ft gw P (P.2.2.1 25 q)).map (cad ad))) (fi_is ft gw q S) H locs ls (by omega) (by omega) (by rw [show P.2.2.1 23 cn + (pi + 1) = q + 1 by omega]; exact RSP.up rsq.1 (rsq.2.trans hqc) rfl (fun q' h' => (hkc.2.2.1.1.2.2.1.fm (q' + 1) q (by omega) hq).1)) (by rw [← hr, fi_parts_u ft gw gp cn _ q, if_pos (by omega), fi_part_e hkp, hqc, show P.2.2.1 23 cn + (pi + 1) = q + 1 by omega]) hP hD hS (lv_sub hl [3, 4, 0] rfl)
      · refine lpi_Checker_resolve (F := fi_links ft gp cn i (P.2.2.1 26 (q + 1) - (P.2.2.1 26 q + 0)) (P.2.2.1 26 q + 0) (fi_is ft gw q S)) hkc hc hc0 hid (by omega) (by omega) (by omega) hx9 rfl rfl rfl (q_chip_in hkc tq.2 tq.1 hqc) hx hb hml hown hts hA hF hE hK (fun G9 H locs ls rsp9 hP hD hS hl => ?_) (P.2.2.1 26 (q + 1) - P.2.2.1 26 q + 1) 0 _ (fi_is ft gw q S) _ _ ls (by omega) (by omega) rsq.1 (rsq.2.trans hqc) rfl hP hD hS (lv_sub hl [2, 3, 4, 1, 0] rfl)
        refine lv_iinc (v := nI (pi + 1)) (lv' := [(2, .int (nI (pi + 1))), (0, .ref qx), (1, .ref c0)]) hx hb d_Checker_resolve_107 hl (k := 2) rfl (nI_1 _) (by decide) rfl (fun ls hl => ?_)
        refine lv_goto (tgt := 2) hx hb d_Checker_resolve_110 (by decide) ?_
        exact ih (pi + 1) G9 (fi_links ft gp cn i (P.2.2.1 26 (q + 1) - P.2.2.1 26 q) (P.2.2.1 26 q) (fi_is ft gw q S)) H locs ls (by omega) (by omega) (by rw [show P.2.2.1 23 cn + (pi + 1) = q + 1 by omega]; exact rsp9) (by rw [← hr, fi_parts_u ft gw gp cn _ q, if_pos (by omega), fi_part_e hkp, hqc, show P.2.2.1 23 cn + (pi + 1) = q + 1 by omega]) hP hD hS (lv_sub hl [1, 2, 0] rfl)
set_option maxHeartbeats 4000000 in
set_option maxRecDepth 100000 in
/-- resolve(chip) -/
theorem p_Checker_resolve (l : Launch) (dC : Nat → ClassId) (dI : Nat → Nat → Nat) (cB cI cL cZ cC cO : ClassId) {L : List Nat} {G : PG} (qx qc qf na df qi : Nat) (ft tv gw gp : Nat → Int32) (nv : Nat → Nat) (T : Nat) (fk : Nat → Int32) (pp nn : Nat → Nat) (fh fl : Nat → Int64) (ad : Nat → Nat → Nat) (tg : Nat → Nat × Nat) (P : PS) (cn c0 id : Nat) (S : PS) (t0 sz : Nat) (hkc : KC ft tv gw gp nv T fk pp nn fh fl P) (hc : cn < P.1 15) (hc0 : ad 0 cn = c0) (hid : id = P.2.2.1 36 (cn + 1)) (rsp : RSP t0 qc na df ft tv gp fh fl pp nn ad tg P L id G G S (P.2.2.1 23 cn) (P.2.2.1 26 (P.2.2.1 23 cn))) : Met l y_Checker_resolve w_Checker_resolve ({ frames := 4, cells := 0, slots := 0, locals := 220 }) (va_Pc [.ref qx, .ref c0] (wB2 (dC, dI) cl [(cB, .byte), (cI, .int), (cL, .long), (cZ, .boolean), (cC, .char), (cO, .object "java/lang/Object")] sz t0 ([(qx, .inr (5, [.ref qc, .ref qf, .ref na, .ref df, .ref qi]))] ++ va_pl L (gE cO G)))) (va_Qv (fun (u : PG) => RSP t0 qc na df ft tv gp fh fl pp nn ad tg P L id G u (fi_parts ft gw gp cn (P.2.2.1 23 (cn + 1) - P.2.2.1 23 cn) (P.2.2.1 23 cn) S) (P.2.2.1 23 (cn + 1)) (P.2.2.1 26 (P.2.2.1 23 (cn + 1)))) (fun u t => wA (dC, dI) cl [(cB, .byte), (cI, .int), (cL, .long), (cZ, .boolean), (cC, .char), (cO, .object "java/lang/Object")] (va_A ([(qx, .inr (5, [.ref qc, .ref qf, .ref na, .ref df, .ref qi]))] ++ va_pl L (gE cO G)) sz) ([(qx, .inr (5, [.ref qc, .ref qf, .ref na, .ref df, .ref qi]))] ++ va_pl L (gE cO u)) t) (va_A ([(qx, .inr (5, [.ref qc, .ref qf, .ref na, .ref df, .ref qi]))] ++ va_pl L (gE cO G)) sz)) 0 0 (va_A ([(qx, .inr (5, [.ref qc, .ref qf, .ref na, .ref df, .ref qi]))] ++ va_pl L (gE cO G)) sz) := by
  refine Met.ofW (cc := b_Checker_resolve) (maxL := 6) (ret := none) (by decide) rfl ?_
  intro p e s m args below meth c s₁ B hml hv
  obtain ⟨rfl, ⟨hsz, hP, hK, hD0, hF⟩, hE⟩ := hv
  have hx := B.exec
  have hb := B.bytes
  have hr := B.returns
  have hts := atoms_spec (ws := w_Checker_resolve) B.pre
  have hts : ∀ w ∈ tb, w.before _ s = true := fun w h => hts w (List.mem_cons_of_mem _ h)
  have hown : s.vm.findClass R_Checker = some m.cls := findClass_of_methodNamed B.named
  have hlocks := B.notSynchronized
  subst hsz
  have hD := hD0.self (sz := s.heap.size)
  generalize hAe : va_A ([(qx, .inr (5, [.ref qc, .ref qf, .ref na, .ref df, .ref qi]))] ++ va_pl L (gE cO G)) s.heap.size = A at hD hF hE ⊢
  have hA : ∀ q : Nat, s.heap.size ≤ q → A q := fun q h => by rw [← hAe]; exact Or.inr h
  have hS : va_S A s.heap s.heap [] := va_S.rf
  have hP : va_P (dC, dI) cl ([(qx, .inr (5, [.ref qc, .ref qf, .ref na, .ref df, .ref qi]))] ++ va_pl L (gE cO G)) s.heap := hP
  have hl := lv_entry ([.ref qx, .ref c0]) (n := 6) (Nat.le_of_ble_eq_true rfl)
  rw [lg_entry_eq]
  generalize (lg_sl ([.ref qx, .ref c0]) ++ List.replicate (6 - (lg_sl ([.ref qx, .ref c0])).length) Slot.unset).toArray = ls at hl ⊢
  have hl : lv_has ls 6 [(0, .ref qx), (1, .ref c0)] := hl
  refine lv_iconst (v := nI 0) hx hb d_Checker_resolve_0 (by decide) ?_
  refine lv_istore_n (lv' := [(2, .int (nI 0)), (0, .ref qx), (1, .ref c0)]) hx hb d_Checker_resolve_1 rfl hl (by decide) rfl (fun ls hl => ?_)
  refine lpo_Checker_resolve (F := fi_parts ft gw gp cn (P.2.2.1 23 (cn + 1) - P.2.2.1 23 cn) (P.2.2.1 23 cn) S) hkc hc hc0 hid rfl hx hb hml hown hts hA hF hE hK (fun G9 H locs ls rsp9 hP hD hS hl => ?_) (P.2.2.1 23 (cn + 1) - P.2.2.1 23 cn + 1) 0 G S _ _ ls (by omega) (by omega) rsp rfl hP hD hS (lv_sub hl [1, 2, 0] rfl)
  exact wr_v hx hb hr hlocks G9 rsp9 hK hP hD hS d_Checker_resolve_113
