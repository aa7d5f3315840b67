theorem cad_g {t0 qc qna qdf : Nat} {ft tv : Nat → Int32} {pp nn : Nat → Nat} {fh fl : Nat → Int64} {G : PG} {ad : Nat → Nat → Nat} {tg : Nat → Nat × Nat} {P : PS} {i : Nat} (hR : RF t0 qc qna qdf ft tv fh fl pp nn G ad tg P) (hi : i < P.1 15 + 2) : (G.2.1 (cad ad i) 1 = if 1 < i then 0 else i + 1) ∧ G.2.1 (cad ad i) 2 = i - 2 := by
  unfold cad
  by_cases c1 : 1 < i
  · rw [if_pos c1, if_pos c1]
    obtain ⟨a1, -⟩ := hR.2.2.2.2.1 (i - 2) (by omega)
    exact ⟨a1.2.2.1, a1.2.2.2.1⟩
  · rw [if_neg c1, if_neg c1]
    obtain ⟨g1, g2, -⟩ := hR.2.2.1
    rcases (show i = 0 ∨ i = 1 by omega) with e | e
    · rw [e]; exact ⟨g1.2.2.1, g1.2.2.2.1⟩
    · rw [e]; exact ⟨g2.2.2.1, g2.2.2.2.1⟩
theorem shl_8 {i : Nat} (h : i < 8) : (nI 1 <<< (nI i &&& 31)) = nI (2 ^ i) := (show ∀ i, i < 8 → (nI 1 <<< (nI i &&& 31)) = nI (2 ^ i) by decide +kernel) i h
theorem shr_8 {w y : Nat} (h : w < 256) (hy : y < 8) : ((nI w >>> (nI y &&& 31)) &&& nI 1) = bI (w.testBit y) := (show ∀ w, w < 256 → ∀ y, y < 8 → ((nI w >>> (nI y &&& 31)) &&& nI 1) = bI (w.testBit y) by decide +kernel) w h y hy
theorem shl_or {w i : Nat} (h : i < 8) : (nI w ||| (nI 1 <<< (nI i &&& 31))) = nI (w ||| 2 ^ i) := by rw [shl_8 h, nI_or]
theorem dm1_n {w : Nat} : dm1 none w = w := rfl
theorem dm1_g {i w : Nat} (h : ¬ 1 < i) : dm1 (some i) w = w := if_neg h
theorem dm1_c {i w : Nat} (h : 1 < i) : dm1 (some i) w = w ||| 2 ^ (i - 2) := if_pos h
theorem d_Checker_directlyInside_0 : decode b_Checker_directlyInside 0 = .ok (.iconst 0, 1) := by decide +kernel
theorem d_Checker_directlyInside_1 : decode b_Checker_directlyInside 1 = .ok (.istore_n 1, 1) := by decide +kernel
theorem d_Checker_directlyInside_2 : decode b_Checker_directlyInside 2 = .ok (.iconst 0, 1) := by decide +kernel
theorem d_Checker_directlyInside_3 : decode b_Checker_directlyInside 3 = .ok (.istore_n 2, 1) := by decide +kernel
theorem d_Checker_directlyInside_4 : decode b_Checker_directlyInside 4 = .ok (.iload_n 2, 1) := by decide +kernel
theorem d_Checker_directlyInside_5 : decode b_Checker_directlyInside 5 = .ok (.aload_n 0, 1) := by decide +kernel
theorem d_Checker_directlyInside_6 : decode b_Checker_directlyInside 6 = .ok (.getfield 89, 3) := by decide +kernel
theorem d_Checker_directlyInside_9 : decode b_Checker_directlyInside 9 = .ok (.invokevirtual 37, 3) := by decide +kernel
theorem d_Checker_directlyInside_12 : decode b_Checker_directlyInside 12 = .ok (.if_icmp .ge 44, 3) := by decide +kernel
theorem d_Checker_directlyInside_15 : decode b_Checker_directlyInside 15 = .ok (.aload_n 0, 1) := by decide +kernel
theorem d_Checker_directlyInside_16 : decode b_Checker_directlyInside 16 = .ok (.getfield 89, 3) := by decide +kernel
theorem d_Checker_directlyInside_19 : decode b_Checker_directlyInside 19 = .ok (.iload_n 2, 1) := by decide +kernel
theorem d_Checker_directlyInside_20 : decode b_Checker_directlyInside 20 = .ok (.invokevirtual 43, 3) := by decide +kernel
theorem d_Checker_directlyInside_23 : decode b_Checker_directlyInside 23 = .ok (.checkcast 92, 3) := by decide +kernel
theorem d_Checker_directlyInside_26 : decode b_Checker_directlyInside 26 = .ok (.getfield 95, 3) := by decide +kernel
theorem d_Checker_directlyInside_29 : decode b_Checker_directlyInside 29 = .ok (.astore_n 3, 1) := by decide +kernel
theorem d_Checker_directlyInside_30 : decode b_Checker_directlyInside 30 = .ok (.aload_n 3, 1) := by decide +kernel
theorem d_Checker_directlyInside_31 : decode b_Checker_directlyInside 31 = .ok (.ifnull 19, 3) := by decide +kernel
theorem d_Checker_directlyInside_34 : decode b_Checker_directlyInside 34 = .ok (.aload_n 3, 1) := by decide +kernel
theorem d_Checker_directlyInside_35 : decode b_Checker_directlyInside 35 = .ok (.getfield 194, 3) := by decide +kernel
theorem d_Checker_directlyInside_38 : decode b_Checker_directlyInside 38 = .ok (.ifCond .ne 12, 3) := by decide +kernel
theorem d_Checker_directlyInside_41 : decode b_Checker_directlyInside 41 = .ok (.iload_n 1, 1) := by decide +kernel
theorem d_Checker_directlyInside_42 : decode b_Checker_directlyInside 42 = .ok (.iconst 1, 1) := by decide +kernel
theorem d_Checker_directlyInside_43 : decode b_Checker_directlyInside 43 = .ok (.aload_n 3, 1) := by decide +kernel
theorem d_Checker_directlyInside_44 : decode b_Checker_directlyInside 44 = .ok (.getfield 197, 3) := by decide +kernel
theorem d_Checker_directlyInside_47 : decode b_Checker_directlyInside 47 = .ok (.ishl, 1) := by decide +kernel
theorem d_Checker_directlyInside_48 : decode b_Checker_directlyInside 48 = .ok (.ior, 1) := by decide +kernel
theorem d_Checker_directlyInside_49 : decode b_Checker_directlyInside 49 = .ok (.istore_n 1, 1) := by decide +kernel
theorem d_Checker_directlyInside_50 : decode b_Checker_directlyInside 50 = .ok (.iinc 2 1, 3) := by decide +kernel
theorem d_Checker_directlyInside_53 : decode b_Checker_directlyInside 53 = .ok (.goto (-49), 3) := by decide +kernel
theorem d_Checker_directlyInside_56 : decode b_Checker_directlyInside 56 = .ok (.iload_n 1, 1) := by decide +kernel
theorem d_Checker_directlyInside_57 : decode b_Checker_directlyInside 57 = .ok (.ireturn, 1) := by decide +kernel
set_option maxHeartbeats 4000000 in
set_option maxRecDepth 100000 in
theorem lp_Checker_directlyInside {p : Program} {l : Launch} {e : Env} {s : State} {m : MethodId} {args : Array Value} {below : List Frame} {meth : Method} {c : Code} {Q : State → Prop} {A : Nat → Prop} {dC : Nat → ClassId} {dI : Nat → Nat → Nat} {cB cI cL cZ cC cO : ClassId} {t0 : Nat} {L : List Nat} {G : PG} {qc na df : Nat} {ft tv gw gp : Nat → Int32} {nv : Nat → Nat} {T : Nat} {fk : Nat → Int32} {pp nn : Nat → Nat} {fh fl : Nat → Int64} {ad : Nat → Nat → Nat} {tg : Nat → Nat × Nat} {P : PS} {cn c0 lq : Nat} {S : PS} {F : Nat} (hkc : KC ft tv gw gp nv T fk pp nn fh fl P) (hR : RF t0 qc na df ft tv fh fl pp nn G ad tg P) (hL : gL L G) (hrs : ∀ q, q < P.1 24 → G.2.2.2.2.2 (ad 9 q) 2 = (S.2.2.2.1 44 q).map (cad ad) ∧ ∀ i, S.2.2.2.1 44 q = some i → i < P.1 15 + 2) (hc : cn < P.1 15) (hc0 : ad 0 cn = c0) (hlq0 : ad 4 cn = lq) (hx : p.tables.exec = Jvm.exec) (hb : c.code = b_Checker_directlyInside) (hml : c.maxLocals = 4) (hown : s.vm.findClass R_Checker = some m.cls) (hts : ∀ w ∈ tb, w.before args s = true) (hA : ∀ q, s.heap.size ≤ q → A q) (hF : stF A s) (hE : stE A t0 s) (hK : va_K (dC, dI) cl [(cB, .byte), (cI, .int), (cL, .long), (cZ, .boolean), (cC, .char), (cO, .object "java/lang/Object")] s)
    (kx : ∀  (H : Heap) (locs : List Loc) (ls : Array Slot), va_P (dC, dI) cl ([] ++ va_pl L (gE cO G)) H → va_D A ([] ++ va_pl L (gE cO G)) → va_S A s.heap H locs → lv_has ls 4 [(0, .ref c0), (1, .int (nI F))] → W p l e (headSpec w_Checker_directlyInside { frames := 3, cells := 0, slots := 0, locals := 130 }).room s m args below meth c H locs 0 0 Q (F0 m 56 ls [])) :
    ∀ (k : Nat) (pi w0 : Nat) (H : Heap) (locs : List Loc) (ls : Array Slot), P.2.2.1 23 (cn + 1) - P.2.2.1 23 cn < pi + k → pi ≤ P.2.2.1 23 (cn + 1) - P.2.2.1 23 cn → dmk (S.2.2.2.1 44) (P.2.2.1 23 (cn + 1) - (P.2.2.1 23 cn + pi)) (P.2.2.1 23 cn + pi) w0 = F → va_P (dC, dI) cl ([] ++ va_pl L (gE cO G)) H → va_D A ([] ++ va_pl L (gE cO G)) → va_S A s.heap H locs → lv_has ls 4 [(0, .ref c0), (1, .int (nI w0)), (2, .int (nI pi))] → W p l e (headSpec w_Checker_directlyInside { frames := 3, cells := 0, slots := 0, locals := 130 }).room s m args below meth c H locs 0 0 Q (F0 m 4 ls []) := by
  intro k
  induction k with
  | zero =>
    intro pi w0 H locs ls hk hj hr hP hD hS hl
    exfalso; omega
  | succ k ih =>
    intro pi w0 H locs ls hk hj hr hP hD hS hl
    obtain ⟨q, hqe⟩ : ∃ z, z = P.2.2.1 23 cn + pi := ⟨_, rfl⟩
    rw [← hqe] at hr
    have b23 := hkc.p23 hc
    have s24 : P.1 24 ≤ 12 * P.1 15 := hkc.2.2.1.2.2.2.1.2.2.1
    have s15 : P.1 15 ≤ 8 := hkc.2.2.1.2.2.2.1.1
    obtain ⟨cc1, -, -, -, cc5⟩ := hR.2.2.2.2.1 cn hc
    rw [hc0] at cc1
    rw [hlq0] at cc1 cc5
    have hll : (rga (ad 9) (P.2.2.1 23 cn) (P.2.2.1 23 (cn + 1))).length = P.2.2.1 23 (cn + 1) - P.2.2.1 23 cn := rga_len _ _ _
    refine lv_iload_n hx hb d_Checker_directlyInside_4 rfl (lv_at hl 2 rfl) ?_
    refine lv_aload_n hx hb d_Checker_directlyInside_5 rfl (lv_at hl 0 rfl) ?_
    refine pq_get (D := (dC, dI)) (ci := 6) (v := .ref lq) (C := R_Chip) (T := F_Chip) (N := 9) hx hb hts i_Chip hown hK hP (gL_m hL cc1.1 (by decide)) (gE_6 (G := G) cc1.1) rfl 5 (by decide) (hts _ k_179) (fun _ h9 => h9) (congrArg (fun z9 => some (va_rf z9)) cc1.2.2.2.2.2.2.1) d_Checker_directlyInside_6 ?_
    refine wd_i (cx := []) (wr := []) (pl := va_pl L (gE cO G)) (va_runV (As := []) (rest := [.int (nI pi)]) ⟨hx, hb, hml, hown, hts⟩ (p_List_size l dC dI cB cI cL cZ cC cO (G := G) lq t0 _ hL cc5.k.1) (cwV 0 hts (good_V k_687 k_325 k_326 k_7 k_327) rfl rfl rfl (by decide +kernel) ⟨Nat.le_of_ble_eq_true rfl, Nat.le_of_ble_eq_true rfl⟩) (wd_preV (ci := 4) (r := (R_List, F_List, 3)) hK hP hD hS hA hF hE [] (by decide) rfl rfl (pq_at (gL_m hL cc5.k.1 (by decide)) (gE_7 (G := G) cc5.k.1))) rfl rfl hl.1 rfl (lv_room (Nat.le_of_ble_eq_true rfl)) d_Checker_directlyInside_9 ⟨Nat.le_of_ble_eq_true rfl, Nat.le_of_ble_eq_true rfl⟩) hP hD hS hA [] [] rfl rfl (by decide) (by decide) (fun r_2 _ H locs w_1 hP hD hS => ?_)
    have hP : va_P (dC, dI) cl ([] ++ va_pl L (gE cO G)) H := hP
    have hD : va_D A ([] ++ va_pl L (gE cO G)) := hD
    rw [cc5.k.2] at w_1
    subst w_1
    refine nv_icmp_ge (tgt := 56) hx hb (by omega) (by omega) d_Checker_directlyInside_12 (by decide) (fun c_3 => ?_) (fun c_3 => ?_)
    · have hq9 : w0 = F := by rw [← hr, dmk_u, if_neg (by omega)]
      subst hq9
      exact kx H locs ls hP hD hS (lv_sub hl [0, 1] rfl)
    · refine lv_aload_n hx hb d_Checker_directlyInside_15 rfl (lv_at hl 0 rfl) ?_
      refine pq_get (D := (dC, dI)) (ci := 6) (v := .ref lq) (C := R_Chip) (T := F_Chip) (N := 9) hx hb hts i_Chip hown hK hP (gL_m hL cc1.1 (by decide)) (gE_6 (G := G) cc1.1) rfl 5 (by decide) (hts _ k_179) (fun _ h9 => h9) (congrArg (fun z9 => some (va_rf z9)) cc1.2.2.2.2.2.2.1) d_Checker_directlyInside_16 ?_
      refine lv_iload_n hx hb d_Checker_directlyInside_19 rfl (lv_at hl 2 rfl) ?_
      obtain ⟨x, hxi⟩ : ∃ z, (rga (ad 9) (P.2.2.1 23 cn) (P.2.2.1 23 (cn + 1)))[pi]? = some z := ⟨_, List.getElem?_eq_getElem (by omega)⟩
      refine wd_q (cx := []) (wr := []) (pl := va_pl L (gE cO G)) (va_runV (As := [.int (nI pi)]) (rest := []) ⟨hx, hb, hml, hown, hts⟩ (p_List_get l dC dI cB cI cL cZ cC cO (G := G) lq (pi) (rga (ad 9) (P.2.2.1 23 cn) (P.2.2.1 23 (cn + 1))) t0 _ hL cc5 (by omega)) (cwV 1 hts (good_V k_688 k_329 k_330 k_7 k_331) rfl rfl rfl (by decide +kernel) ⟨Nat.le_of_ble_eq_true rfl, Nat.le_of_ble_eq_true rfl⟩) (wd_preV (ci := 4) (r := (R_List, F_List, 3)) hK hP hD hS hA hF hE [] (by decide) rfl rfl (pq_at (gL_m hL cc5.k.1 (by decide)) (gE_7 (G := G) cc5.k.1))) rfl rfl hl.1 rfl (lv_room (Nat.le_of_ble_eq_true rfl)) d_Checker_directlyInside_20 ⟨Nat.le_of_ble_eq_true rfl, Nat.le_of_ble_eq_true rfl⟩) hP hD hS hA [] [] rfl rfl (by decide) (by decide) (fun r_5 _ H locs w_4 hP hD hS => ?_)
      have hP : va_P (dC, dI) cl ([] ++ va_pl L (gE cO G)) H := hP
      have hD : va_D A ([] ++ va_pl L (gE cO G)) := hD
      rw [hxi] at w_4
      subst w_4
      have hx9 : ad 9 q = x := by rw [rga_get (by omega), ← hqe] at hxi; exact Option.some.inj hxi
      have hq : q < P.1 24 := by omega
      obtain ⟨jq, jt, -⟩ := hR.2.2.2.2.2.2.2.1 q hq
      rw [hx9] at jq
      have fr2 := hrs q hq
      rw [hx9] at fr2
      rw [dmk_u _ _ q, if_pos (by omega)] at hr
      refine pq_cast (ci := 10) (C := R_Part) (T := F_Part) (N := 3) hx hb hown (hts _ k_700) (hF.2.2.2.2 _ (List.mem_of_getElem? (i := 5) rfl)) hK hP (gL_m hL jq.1 (by decide)) (gE_5 (G := G) jq.1) rfl d_Checker_directlyInside_23 ?_
      rcases h44 : S.2.2.2.1 44 q with _ | i
      · have fx2 : G.2.2.2.2.2 x 2 = none := by rw [fr2.1, h44]; rfl
        rw [h44, dm1_n] at hr
        refine pq_get (D := (dC, dI)) (ci := 10) (v := .null) (C := R_Part) (T := F_Part) (N := 3) hx hb hts i_Part hown hK hP (gL_m hL jq.1 (by decide)) (gE_5 (G := G) jq.1) rfl 2 (by decide) (hts _ k_590) (fun _ h9 => h9) (congrArg (fun z9 => some (va_rf z9)) fx2) d_Checker_directlyInside_26 ?_
        refine lv_astore_nN (lv' := [(3, .null), (0, .ref c0), (1, .int (nI w0)), (2, .int (nI pi))]) hx hb d_Checker_directlyInside_29 rfl hl (by decide) rfl (fun ls hl => ?_)
        refine lv_aload_nN hx hb d_Checker_directlyInside_30 rfl (lv_at hl 0 rfl) ?_
        refine lv_ifnullN (tgt := 50) hx hb d_Checker_directlyInside_31 (by decide) ?_
        refine lv_iinc (v := nI (pi + 1)) (lv' := [(2, .int (nI (pi + 1))), (3, .null), (0, .ref c0), (1, .int (nI w0))]) hx hb d_Checker_directlyInside_50 hl (k := 3) rfl (nI_1 _) (by decide) rfl (fun ls hl => ?_)
        refine lv_goto (tgt := 4) hx hb d_Checker_directlyInside_53 (by decide) ?_
        exact ih (pi + 1) w0 H locs ls (by omega) (by omega) (by rw [show P.2.2.1 23 cn + (pi + 1) = q + 1 by omega]; exact hr) hP hD hS (lv_sub hl [2, 3, 0] rfl)
      · have hi2 := fr2.2 i h44
        have fx2 : G.2.2.2.2.2 x 2 = some (cad ad i) := by rw [fr2.1, h44]; rfl
        rw [h44] at hr
        obtain ⟨cf1, -⟩ := cad_f hR hkc hi2
        obtain ⟨cg1, cg2⟩ := cad_g hR hi2
        obtain ⟨gt, hgt⟩ : ∃ z, z = (if 1 < i then 0 else i + 1) := ⟨_, rfl⟩
        rw [← hgt] at cg1
        have hgl : gt < 100 := by rw [hgt]; split <;> omega
        have hgi : gt = 0 ↔ 1 < i := by rw [hgt]; split <;> omega
        refine pq_get (D := (dC, dI)) (ci := 10) (v := .ref (cad ad i)) (C := R_Part) (T := F_Part) (N := 3) hx hb hts i_Part hown hK hP (gL_m hL jq.1 (by decide)) (gE_5 (G := G) jq.1) rfl 2 (by decide) (hts _ k_590) (fun _ h9 => h9) (congrArg (fun z9 => some (va_rf z9)) fx2) d_Checker_directlyInside_26 ?_
        refine lv_astore_n (lv' := [(3, .ref (cad ad i)), (0, .ref c0), (1, .int (nI w0)), (2, .int (nI pi))]) hx hb d_Checker_directlyInside_29 rfl hl (by decide) rfl (fun ls hl => ?_)
        refine lv_aload_n hx hb d_Checker_directlyInside_30 rfl (lv_at hl 0 rfl) ?_
        refine lv_ifnull hx hb d_Checker_directlyInside_31 ?_
        refine lv_aload_n hx hb d_Checker_directlyInside_34 rfl (lv_at hl 0 rfl) ?_
        refine pq_get (D := (dC, dI)) (ci := 6) (v := .int (nI gt)) (C := R_Chip) (T := F_Chip) (N := 9) hx hb hts i_Chip hown hK hP (gL_m hL cf1 (by decide)) (gE_6 (G := G) cf1) rfl 1 (by decide) (hts _ k_169) (fun _ h9 => h9) (congrArg (fun z9 => some (Value.int (nI z9))) cg1) d_Checker_directlyInside_35 ?_
        refine nv_if_ne (tgt := 50) hx hb (by omega) d_Checker_directlyInside_38 (by decide) (fun c_6 => ?_) (fun c_6 => ?_)
        · refine lv_iinc (v := nI (pi + 1)) (lv' := [(2, .int (nI (pi + 1))), (3, .ref (cad ad i)), (0, .ref c0), (1, .int (nI w0))]) hx hb d_Checker_directlyInside_50 hl (k := 3) rfl (nI_1 _) (by decide) rfl (fun ls hl => ?_)
          refine lv_goto (tgt := 4) hx hb d_Checker_directlyInside_53 (by decide) ?_
          rw [dm1_g (by omega)] at hr
          exact ih (pi + 1) w0 H locs ls (by omega) (by omega) (by rw [show P.2.2.1 23 cn + (pi + 1) = q + 1 by omega]; exact hr) hP hD hS (lv_sub hl [2, 3, 0] rfl)
        · refine lv_iload_n hx hb d_Checker_directlyInside_41 rfl (lv_at hl 2 rfl) ?_
          refine lv_iconst (v := nI 1) hx hb d_Checker_directlyInside_42 (by decide) ?_
          refine lv_aload_n hx hb d_Checker_directlyInside_43 rfl (lv_at hl 0 rfl) ?_
          refine pq_get (D := (dC, dI)) (ci := 6) (v := .int (nI (i - 2))) (C := R_Chip) (T := F_Chip) (N := 9) hx hb hts i_Chip hown hK hP (gL_m hL cf1 (by decide)) (gE_6 (G := G) cf1) rfl 2 (by decide) (hts _ k_171) (fun _ h9 => h9) (congrArg (fun z9 => some (Value.int (nI z9))) cg2) d_Checker_directlyInside_44 ?_
          refine lv_ishl hx hb d_Checker_directlyInside_47 ?_
          refine lv_ior hx hb d_Checker_directlyInside_48 ?_
          refine W.eq (g2 := F0 m 49 ls [.int (nI (w0 ||| 2 ^ (i - 2)))]) (congrArg (fun z9 => F0 m 49 ls [.int z9]) (shl_or (by omega))) ?_
          refine lv_istore_n (lv' := [(1, .int (nI (w0 ||| 2 ^ (i - 2)))), (3, .ref (cad ad i)), (0, .ref c0), (2, .int (nI pi))]) hx hb d_Checker_directlyInside_49 rfl hl (by decide) rfl (fun ls hl => ?_)
          refine lv_iinc (v := nI (pi + 1)) (lv' := [(2, .int (nI (pi + 1))), (1, .int (nI (w0 ||| 2 ^ (i - 2)))), (3, .ref (cad ad i)), (0, .ref c0)]) hx hb d_Checker_directlyInside_50 hl (k := 3) rfl (nI_1 _) (by decide) rfl (fun ls hl => ?_)
          refine lv_goto (tgt := 4) hx hb d_Checker_directlyInside_53 (by decide) ?_
          rw [dm1_c (by omega)] at hr
          exact ih (pi + 1) (w0 ||| 2 ^ (i - 2)) H locs ls (by omega) (by omega) (by rw [show P.2.2.1 23 cn + (pi + 1) = q + 1 by omega]; exact hr) hP hD hS (lv_sub hl [3, 1, 0] rfl)
set_option maxHeartbeats 4000000 in
set_option maxRecDepth 100000 in
/-- directlyInside(chip) -/
theorem p_Checker_directlyInside (l : Launch) (dC : Nat → ClassId) (dI : Nat → Nat → Nat) (cB cI cL cZ cC cO : ClassId) {L : List Nat} {G : PG} (qc na df : Nat) (ft tv gw gp : Nat → Int32) (nv : Nat → Nat) (T : Nat) (fk : Nat → Int32) (pp nn : Nat → Nat) (fh fl : Nat → Int64) (ad : Nat → Nat → Nat) (tg : Nat → Nat × Nat) (P : PS) (cn c0 : Nat) (S : PS) (t0 sz : Nat) (hkc : KC ft tv gw gp nv T fk pp nn fh fl P) (hR : RF t0 qc na df ft tv fh fl pp nn G ad tg P) (hL : gL L G) (hrs : ∀ q, q < P.1 24 → G.2.2.2.2.2 (ad 9 q) 2 = (S.2.2.2.1 44 q).map (cad ad) ∧ ∀ i, S.2.2.2.1 44 q = some i → i < P.1 15 + 2) (hc : cn < P.1 15) (hc0 : ad 0 cn = c0) : Met l y_Checker_directlyInside w_Checker_directlyInside ({ frames := 3, cells := 0, slots := 0, locals := 130 }) (va_Pc [.ref c0] (wB2 (dC, dI) cl [(cB, .byte), (cI, .int), (cL, .long), (cZ, .boolean), (cC, .char), (cO, .object "java/lang/Object")] sz t0 ([] ++ va_pl L (gE cO G)))) (va_Qi (fun (r : Int32) (u : Unit) => r = nI (dmk (S.2.2.2.1 44) (P.2.2.1 23 (cn + 1) - P.2.2.1 23 cn) (P.2.2.1 23 cn) 0)) (fun _ t => wA (dC, dI) cl [(cB, .byte), (cI, .int), (cL, .long), (cZ, .boolean), (cC, .char), (cO, .object "java/lang/Object")] (va_A ([] ++ va_pl L (gE cO G)) sz) ([] ++ va_pl L (gE cO G)) t) (va_A ([] ++ va_pl L (gE cO G)) sz)) 0 0 (va_A ([] ++ va_pl L (gE cO G)) sz) := by
  refine Met.ofW (cc := b_Checker_directlyInside) (maxL := 4) (ret := (some ClassFile.FieldType.int)) (by decide) rfl ?_
  intro p e s m args below meth c s₁ B hml hv
  obtain ⟨rfl, ⟨hsz, hP, hK, hD0, hF⟩, hE⟩ := hv
  have hx := B.exec
  have hb := B.bytes
  have hr := B.returns
  have hts := atoms_spec (ws := w_Checker_directlyInside) B.pre
  have hts : ∀ w ∈ tb, w.before _ s = true := fun w h => hts w (List.mem_cons_of_mem _ h)
  have hown : s.vm.findClass R_Checker = some m.cls := findClass_of_methodNamed B.named
  have hlocks := B.notSynchronized
  subst hsz
  have hD := hD0.self (sz := s.heap.size)
  generalize hAe : va_A ([] ++ va_pl L (gE cO G)) s.heap.size = A at hD hF hE ⊢
  have hA : ∀ q : Nat, s.heap.size ≤ q → A q := fun q h => by rw [← hAe]; exact Or.inr h
  have hS : va_S A s.heap s.heap [] := va_S.rf
  have hP : va_P (dC, dI) cl ([] ++ va_pl L (gE cO G)) s.heap := hP
  have hl := lv_entry ([.ref c0]) (n := 4) (Nat.le_of_ble_eq_true rfl)
  rw [lg_entry_eq]
  generalize (lg_sl ([.ref c0]) ++ List.replicate (4 - (lg_sl ([.ref c0])).length) Slot.unset).toArray = ls at hl ⊢
  have hl : lv_has ls 4 [(0, .ref c0)] := hl
  refine lv_iconst (v := nI 0) hx hb d_Checker_directlyInside_0 (by decide) ?_
  refine lv_istore_n (lv' := [(1, .int (nI 0)), (0, .ref c0)]) hx hb d_Checker_directlyInside_1 rfl hl (by decide) rfl (fun ls hl => ?_)
  refine lv_iconst (v := nI 0) hx hb d_Checker_directlyInside_2 (by decide) ?_
  refine lv_istore_n (lv' := [(2, .int (nI 0)), (1, .int (nI 0)), (0, .ref c0)]) hx hb d_Checker_directlyInside_3 rfl hl (by decide) rfl (fun ls hl => ?_)
  refine lp_Checker_directlyInside (F := (dmk (S.2.2.2.1 44) (P.2.2.1 23 (cn + 1) - P.2.2.1 23 cn) (P.2.2.1 23 cn) 0)) hkc hR hL hrs hc hc0 rfl hx hb hml hown hts hA hF hE hK (fun H locs ls hP hD hS hl => ?_) (P.2.2.1 23 (cn + 1) - P.2.2.1 23 cn + 1) 0 0 _ _ ls (by omega) (by omega) rfl hP hD hS (lv_sub hl [2, 1, 0] rfl)
  refine lv_iload_n hx hb d_Checker_directlyInside_56 rfl (lv_at hl 1 rfl) ?_
  exact wr_i hx hb hr hlocks () rfl hK hP hD hS d_Checker_directlyInside_57
theorem d_Checker_checkRings_0 : decode b_Checker_checkRings 0 = .ok (.aload_n 0, 1) := by decide +kernel
theorem d_Checker_checkRings_1 : decode b_Checker_checkRings 1 = .ok (.getfield 29, 3) := by decide +kernel
theorem d_Checker_checkRings_4 : decode b_Checker_checkRings 4 = .ok (.invokevirtual 37, 3) := by decide +kernel
theorem d_Checker_checkRings_7 : decode b_Checker_checkRings 7 = .ok (.aload_n 0, 1) := by decide +kernel
theorem d_Checker_checkRings_8 : decode b_Checker_checkRings 8 = .ok (.getfield 25, 3) := by decide +kernel
theorem d_Checker_checkRings_11 : decode b_Checker_checkRings 11 = .ok (.arraylength, 1) := by decide +kernel
theorem d_Checker_checkRings_12 : decode b_Checker_checkRings 12 = .ok (.invokestatic 184, 3) := by decide +kernel
theorem d_Checker_checkRings_15 : decode b_Checker_checkRings 15 = .ok (.istore_n 1, 1) := by decide +kernel
theorem d_Checker_checkRings_16 : decode b_Checker_checkRings 16 = .ok (.iconst 0, 1) := by decide +kernel
theorem d_Checker_checkRings_17 : decode b_Checker_checkRings 17 = .ok (.istore_n 2, 1) := by decide +kernel
theorem d_Checker_checkRings_18 : decode b_Checker_checkRings 18 = .ok (.iload_n 2, 1) := by decide +kernel
theorem d_Checker_checkRings_19 : decode b_Checker_checkRings 19 = .ok (.iload_n 1, 1) := by decide +kernel
theorem d_Checker_checkRings_20 : decode b_Checker_checkRings 20 = .ok (.if_icmp .ge 29, 3) := by decide +kernel
theorem d_Checker_checkRings_23 : decode b_Checker_checkRings 23 = .ok (.aload_n 0, 1) := by decide +kernel
theorem d_Checker_checkRings_24 : decode b_Checker_checkRings 24 = .ok (.getfield 25, 3) := by decide +kernel
theorem d_Checker_checkRings_27 : decode b_Checker_checkRings 27 = .ok (.iload_n 2, 1) := by decide +kernel
theorem d_Checker_checkRings_28 : decode b_Checker_checkRings 28 = .ok (.aload_n 0, 1) := by decide +kernel
theorem d_Checker_checkRings_29 : decode b_Checker_checkRings 29 = .ok (.getfield 29, 3) := by decide +kernel
theorem d_Checker_checkRings_32 : decode b_Checker_checkRings 32 = .ok (.iload_n 2, 1) := by decide +kernel
theorem d_Checker_checkRings_33 : decode b_Checker_checkRings 33 = .ok (.invokevirtual 43, 3) := by decide +kernel
theorem d_Checker_checkRings_36 : decode b_Checker_checkRings 36 = .ok (.checkcast 8, 3) := by decide +kernel
theorem d_Checker_checkRings_39 : decode b_Checker_checkRings 39 = .ok (.invokestatic 190, 3) := by decide +kernel
theorem d_Checker_checkRings_42 : decode b_Checker_checkRings 42 = .ok (.iastore, 1) := by decide +kernel
theorem d_Checker_checkRings_43 : decode b_Checker_checkRings 43 = .ok (.iinc 2 1, 3) := by decide +kernel
theorem d_Checker_checkRings_46 : decode b_Checker_checkRings 46 = .ok (.goto (-28), 3) := by decide +kernel
theorem d_Checker_checkRings_49 : decode b_Checker_checkRings 49 = .ok (.iconst 0, 1) := by decide +kernel
theorem d_Checker_checkRings_50 : decode b_Checker_checkRings 50 = .ok (.istore_n 2, 1) := by decide +kernel
theorem d_Checker_checkRings_51 : decode b_Checker_checkRings 51 = .ok (.iload_n 2, 1) := by decide +kernel
theorem d_Checker_checkRings_52 : decode b_Checker_checkRings 52 = .ok (.iload_n 1, 1) := by decide +kernel
theorem d_Checker_checkRings_53 : decode b_Checker_checkRings 53 = .ok (.if_icmp .ge 50, 3) := by decide +kernel
theorem d_Checker_checkRings_56 : decode b_Checker_checkRings 56 = .ok (.iconst 0, 1) := by decide +kernel
theorem d_Checker_checkRings_57 : decode b_Checker_checkRings 57 = .ok (.istore_n 3, 1) := by decide +kernel
theorem d_Checker_checkRings_58 : decode b_Checker_checkRings 58 = .ok (.iload_n 3, 1) := by decide +kernel
theorem d_Checker_checkRings_59 : decode b_Checker_checkRings 59 = .ok (.iload_n 1, 1) := by decide +kernel
theorem d_Checker_checkRings_60 : decode b_Checker_checkRings 60 = .ok (.if_icmp .ge 37, 3) := by decide +kernel
theorem d_Checker_checkRings_63 : decode b_Checker_checkRings 63 = .ok (.aload_n 0, 1) := by decide +kernel
theorem d_Checker_checkRings_64 : decode b_Checker_checkRings 64 = .ok (.getfield 25, 3) := by decide +kernel
theorem d_Checker_checkRings_67 : decode b_Checker_checkRings 67 = .ok (.iload_n 3, 1) := by decide +kernel
theorem d_Checker_checkRings_68 : decode b_Checker_checkRings 68 = .ok (.iaload, 1) := by decide +kernel
theorem d_Checker_checkRings_69 : decode b_Checker_checkRings 69 = .ok (.iload_n 2, 1) := by decide +kernel
theorem d_Checker_checkRings_70 : decode b_Checker_checkRings 70 = .ok (.ishr, 1) := by decide +kernel
theorem d_Checker_checkRings_71 : decode b_Checker_checkRings 71 = .ok (.iconst 1, 1) := by decide +kernel
theorem d_Checker_checkRings_72 : decode b_Checker_checkRings 72 = .ok (.iand, 1) := by decide +kernel
theorem d_Checker_checkRings_73 : decode b_Checker_checkRings 73 = .ok (.ifCond .eq 18, 3) := by decide +kernel
theorem d_Checker_checkRings_76 : decode b_Checker_checkRings 76 = .ok (.aload_n 0, 1) := by decide +kernel
theorem d_Checker_checkRings_77 : decode b_Checker_checkRings 77 = .ok (.getfield 25, 3) := by decide +kernel
theorem d_Checker_checkRings_80 : decode b_Checker_checkRings 80 = .ok (.iload_n 3, 1) := by decide +kernel
theorem d_Checker_checkRings_81 : decode b_Checker_checkRings 81 = .ok (.dup2, 1) := by decide +kernel
theorem d_Checker_checkRings_82 : decode b_Checker_checkRings 82 = .ok (.iaload, 1) := by decide +kernel
theorem d_Checker_checkRings_83 : decode b_Checker_checkRings 83 = .ok (.aload_n 0, 1) := by decide +kernel
theorem d_Checker_checkRings_84 : decode b_Checker_checkRings 84 = .ok (.getfield 25, 3) := by decide +kernel
theorem d_Checker_checkRings_87 : decode b_Checker_checkRings 87 = .ok (.iload_n 2, 1) := by decide +kernel
theorem d_Checker_checkRings_88 : decode b_Checker_checkRings 88 = .ok (.iaload, 1) := by decide +kernel
theorem d_Checker_checkRings_89 : decode b_Checker_checkRings 89 = .ok (.ior, 1) := by decide +kernel
theorem d_Checker_checkRings_90 : decode b_Checker_checkRings 90 = .ok (.iastore, 1) := by decide +kernel
theorem d_Checker_checkRings_91 : decode b_Checker_checkRings 91 = .ok (.iinc 3 1, 3) := by decide +kernel
theorem d_Checker_checkRings_94 : decode b_Checker_checkRings 94 = .ok (.goto (-36), 3) := by decide +kernel
theorem d_Checker_checkRings_97 : decode b_Checker_checkRings 97 = .ok (.iinc 2 1, 3) := by decide +kernel
theorem d_Checker_checkRings_100 : decode b_Checker_checkRings 100 = .ok (.goto (-49), 3) := by decide +kernel
theorem d_Checker_checkRings_103 : decode b_Checker_checkRings 103 = .ok (.iconst 0, 1) := by decide +kernel
theorem d_Checker_checkRings_104 : decode b_Checker_checkRings 104 = .ok (.istore_n 2, 1) := by decide +kernel
theorem d_Checker_checkRings_105 : decode b_Checker_checkRings 105 = .ok (.iload_n 2, 1) := by decide +kernel
theorem d_Checker_checkRings_106 : decode b_Checker_checkRings 106 = .ok (.iload_n 1, 1) := by decide +kernel
theorem d_Checker_checkRings_107 : decode b_Checker_checkRings 107 = .ok (.if_icmp .ge 49, 3) := by decide +kernel
theorem d_Checker_checkRings_110 : decode b_Checker_checkRings 110 = .ok (.aload_n 0, 1) := by decide +kernel
theorem d_Checker_checkRings_111 : decode b_Checker_checkRings 111 = .ok (.getfield 25, 3) := by decide +kernel
theorem d_Checker_checkRings_114 : decode b_Checker_checkRings 114 = .ok (.iload_n 2, 1) := by decide +kernel
theorem d_Checker_checkRings_115 : decode b_Checker_checkRings 115 = .ok (.iaload, 1) := by decide +kernel
theorem d_Checker_checkRings_116 : decode b_Checker_checkRings 116 = .ok (.iload_n 2, 1) := by decide +kernel
theorem d_Checker_checkRings_117 : decode b_Checker_checkRings 117 = .ok (.ishr, 1) := by decide +kernel
theorem d_Checker_checkRings_118 : decode b_Checker_checkRings 118 = .ok (.iconst 1, 1) := by decide +kernel
theorem d_Checker_checkRings_119 : decode b_Checker_checkRings 119 = .ok (.iand, 1) := by decide +kernel
theorem d_Checker_checkRings_120 : decode b_Checker_checkRings 120 = .ok (.ifCond .eq 30, 3) := by decide +kernel
theorem d_Checker_checkRings_123 : decode b_Checker_checkRings 123 = .ok (.aload_n 0, 1) := by decide +kernel
theorem d_Checker_checkRings_124 : decode b_Checker_checkRings 124 = .ok (.getfield 33, 3) := by decide +kernel
theorem d_Checker_checkRings_127 : decode b_Checker_checkRings 127 = .ok (.bipush 6, 2) := by decide +kernel
theorem d_Checker_checkRings_129 : decode b_Checker_checkRings 129 = .ok (.aload_n 0, 1) := by decide +kernel
theorem d_Checker_checkRings_130 : decode b_Checker_checkRings 130 = .ok (.getfield 29, 3) := by decide +kernel
theorem d_Checker_checkRings_133 : decode b_Checker_checkRings 133 = .ok (.iload_n 2, 1) := by decide +kernel
theorem d_Checker_checkRings_134 : decode b_Checker_checkRings 134 = .ok (.invokevirtual 43, 3) := by decide +kernel
theorem d_Checker_checkRings_137 : decode b_Checker_checkRings 137 = .ok (.checkcast 8, 3) := by decide +kernel
theorem d_Checker_checkRings_140 : decode b_Checker_checkRings 140 = .ok (.getfield 47, 3) := by decide +kernel
theorem d_Checker_checkRings_143 : decode b_Checker_checkRings 143 = .ok (.getfield 57, 3) := by decide +kernel
theorem d_Checker_checkRings_146 : decode b_Checker_checkRings 146 = .ok (.invokevirtual 63, 3) := by decide +kernel
theorem d_Checker_checkRings_149 : decode b_Checker_checkRings 149 = .ok (.ireturn, 1) := by decide +kernel
theorem d_Checker_checkRings_150 : decode b_Checker_checkRings 150 = .ok (.iinc 2 1, 3) := by decide +kernel
theorem d_Checker_checkRings_153 : decode b_Checker_checkRings 153 = .ok (.goto (-48), 3) := by decide +kernel
theorem d_Checker_checkRings_156 : decode b_Checker_checkRings 156 = .ok (.iconst 1, 1) := by decide +kernel
theorem d_Checker_checkRings_157 : decode b_Checker_checkRings 157 = .ok (.ireturn, 1) := by decide +kernel
set_option maxHeartbeats 4000000 in
set_option maxRecDepth 100000 in
theorem lp1_Checker_checkRings {p : Program} {l : Launch} {e : Env} {s : State} {m : MethodId} {args : Array Value} {below : List Frame} {meth : Method} {c : Code} {Q : State → Prop} {A : Nat → Prop} {dC : Nat → ClassId} {dI : Nat → Nat → Nat} {cB cI cL cZ cC cO : ClassId} {t0 : Nat} {L : List Nat} {G : PG} {qx qc qf na df qi : Nat} {v0 v1 : Value} {ft tv gw gp : Nat → Int32} {nv : Nat → Nat} {T : Nat} {fk : Nat → Int32} {pp nn : Nat → Nat} {fh fl : Nat → Int64} {ad : Nat → Nat → Nat} {tg : Nat → Nat × Nat} {P : PS} {S : PS} {F : Nat → Nat} (hkc : KC ft tv gw gp nv T fk pp nn fh fl P) (hR : RF t0 qc na df ft tv fh fl pp nn G ad tg P) (hL : gL L G) (hrs : ∀ q, q < P.1 24 → G.2.2.2.2.2 (ad 9 q) 2 = (S.2.2.2.1 44 q).map (cad ad) ∧ ∀ i, S.2.2.2.1 44 q = some i → i < P.1 15 + 2) (h10 : ∀ q i, S.2.2.2.1 44 q = some i → i < 10) (hx : p.tables.exec = Jvm.exec) (hb : c.code = b_Checker_checkRings) (hml : c.maxLocals = 4) (hown : s.vm.findClass R_Checker = some m.cls) (hts : ∀ w ∈ tb, w.before args s = true) (hA : ∀ q, s.heap.size ≤ q → A q) (hF : stF A s) (hE : stE A t0 s) (hK : va_K (dC, dI) cl [(cB, .byte), (cI, .int), (cL, .long), (cZ, .boolean), (cC, .char), (cO, .object "java/lang/Object")] s)
    (kx : ∀  (H : Heap) (locs : List Loc) (ls : Array Slot), sml F → va_P (dC, dI) cl ([(qx, .inr (5, [.ref qc, .ref qf, .ref na, .ref df, .ref qi])), (qf, .inr (2, [v0, v1])), (qi, .inl (cI, 8, .inl (nF F)))] ++ va_pl L (gE cO G)) H → va_D A ([(qx, .inr (5, [.ref qc, .ref qf, .ref na, .ref df, .ref qi])), (qf, .inr (2, [v0, v1])), (qi, .inl (cI, 8, .inl (nF F)))] ++ va_pl L (gE cO G)) → va_S A s.heap H locs → lv_has ls 4 [(0, .ref qx), (1, .int (nI (P.1 15)))] → W p l e (headSpec w_Checker_checkRings { frames := 4, cells := 0, slots := 0, locals := 220 }).room s m args below meth c H locs 0 0 Q (F0 m 49 ls [])) :
    ∀ (k : Nat) (cn : Nat) (f : Nat → Nat) (H : Heap) (locs : List Loc) (ls : Array Slot), P.1 15 < cn + k → cn ≤ P.1 15 → sml f → dcs (S.2.2.2.1 44) (P.2.2.1 23) (P.1 15 - cn) cn f = F → va_P (dC, dI) cl ([(qx, .inr (5, [.ref qc, .ref qf, .ref na, .ref df, .ref qi])), (qf, .inr (2, [v0, v1])), (qi, .inl (cI, 8, .inl (nF f)))] ++ va_pl L (gE cO G)) H → va_D A ([(qx, .inr (5, [.ref qc, .ref qf, .ref na, .ref df, .ref qi])), (qf, .inr (2, [v0, v1])), (qi, .inl (cI, 8, .inl (nF f)))] ++ va_pl L (gE cO G)) → va_S A s.heap H locs → lv_has ls 4 [(0, .ref qx), (1, .int (nI (P.1 15))), (2, .int (nI cn))] → W p l e (headSpec w_Checker_checkRings { frames := 4, cells := 0, slots := 0, locals := 220 }).room s m args below meth c H locs 0 0 Q (F0 m 18 ls []) := by
  intro k
  induction k with
  | zero =>
    intro cn f H locs ls hk hj hsm hr hP hD hS hl
    exfalso; omega
  | succ k ih =>
    intro cn f H locs ls hk hj hsm hr hP hD hS hl
    have s15 : P.1 15 ≤ 8 := hkc.2.2.1.2.2.2.1.1
    have hlc : LSx t0 G qc (rga (ad 0) 0 (P.1 15)) := (fch_h hR hkc).1
    have hll : (rga (ad 0) 0 (P.1 15)).length = P.1 15 := by rw [rga_len]; omega
    refine lv_iload_n hx hb d_Checker_checkRings_18 rfl (lv_at hl 2 rfl) ?_
    refine lv_iload_n hx hb d_Checker_checkRings_19 rfl (lv_at hl 1 rfl) ?_
    refine nv_icmp_ge (tgt := 49) hx hb (by omega) (by omega) d_Checker_checkRings_20 (by decide) (fun c_1 => ?_) (fun c_1 => ?_)
    · have hq9 : f = F := by rw [← hr, dcs_u, if_neg (by omega)]
      subst hq9
      exact kx H locs ls hsm hP hD hS (lv_sub hl [0, 1] rfl)
    · refine lv_aload_n hx hb d_Checker_checkRings_23 rfl (lv_at hl 0 rfl) ?_
      refine va_get (D := (dC, dI)) (ci := 5) (v := .ref qi) (C := R_Checker) (T := F_Checker) (N := 5) hx hb hts i_Checker hown hK hP 0 rfl rfl 4 (by decide) (hts _ k_355) (fun _ h9 => h9) rfl d_Checker_checkRings_24 ?_
      refine lv_iload_n hx hb d_Checker_checkRings_27 rfl (lv_at hl 2 rfl) ?_
      refine lv_aload_n hx hb d_Checker_checkRings_28 rfl (lv_at hl 0 rfl) ?_
      refine va_get (D := (dC, dI)) (ci := 5) (v := .ref qc) (C := R_Checker) (T := F_Checker) (N := 5) hx hb hts i_Checker hown hK hP 0 rfl rfl 0 (by decide) (hts _ k_351) (fun _ h9 => h9) rfl d_Checker_checkRings_29 ?_
      refine lv_iload_n hx hb d_Checker_checkRings_32 rfl (lv_at hl 2 rfl) ?_
      obtain ⟨x, hxi⟩ : ∃ z, (rga (ad 0) 0 (P.1 15))[cn]? = some z := ⟨_, List.getElem?_eq_getElem (by omega)⟩
      refine wd_q (cx := []) (wr := [(qx, .inr (5, [.ref qc, .ref qf, .ref na, .ref df, .ref qi])), (qf, .inr (2, [v0, v1])), (qi, .inl (cI, 8, .inl (nF f)))]) (pl := va_pl L (gE cO G)) (va_runV (As := [.int (nI cn)]) (rest := [.int (nI cn), .ref qi]) ⟨hx, hb, hml, hown, hts⟩ (p_List_get l dC dI cB cI cL cZ cC cO (G := G) qc (cn) (rga (ad 0) 0 (P.1 15)) t0 _ hL hlc (by omega)) (cwV 1 hts (good_V k_688 k_329 k_330 k_7 k_331) rfl rfl rfl (by decide +kernel) ⟨Nat.le_of_ble_eq_true rfl, Nat.le_of_ble_eq_true rfl⟩) (wd_preV (ci := 4) (r := (R_List, F_List, 3)) hK hP hD hS hA hF hE [] (by decide) rfl rfl (pq_at (gL_m hL hlc.k.1 (by decide)) (gE_7 (G := G) hlc.k.1))) rfl rfl hl.1 rfl (lv_room (Nat.le_of_ble_eq_true rfl)) d_Checker_checkRings_33 ⟨Nat.le_of_ble_eq_true rfl, Nat.le_of_ble_eq_true rfl⟩) hP hD hS hA [] [0, 1, 2] rfl rfl (by decide) (by decide) (fun r_3 _ H locs w_2 hP hD hS => ?_)
      have hP : va_P (dC, dI) cl ([(qx, .inr (5, [.ref qc, .ref qf, .ref na, .ref df, .ref qi])), (qf, .inr (2, [v0, v1])), (qi, .inl (cI, 8, .inl (nF f)))] ++ va_pl L (gE cO G)) H := hP
      have hD : va_D A ([(qx, .inr (5, [.ref qc, .ref qf, .ref na, .ref df, .ref qi])), (qf, .inr (2, [v0, v1])), (qi, .inl (cI, 8, .inl (nF f)))] ++ va_pl L (gE cO G)) := hD
      rw [hxi] at w_2
      subst w_2
      have hx9 : ad 0 cn = x := by rw [rga_get (by omega)] at hxi; rw [Nat.zero_add] at hxi; exact Option.some.inj hxi
      obtain ⟨cc1, cc2, -⟩ := hR.2.2.2.2.1 cn (by omega)
      rw [hx9] at cc1
      refine pq_cast (ci := 6) (C := R_Chip) (T := F_Chip) (N := 9) hx hb hown (hts _ k_689) (hF.2.2.2.2 _ (List.mem_of_getElem? (i := 4) rfl)) hK hP (gL_m hL cc1.1 (by decide)) (gE_6 (G := G) cc1.1) rfl d_Checker_checkRings_36 ?_
      refine wd_i (cx := []) (wr := [(qx, .inr (5, [.ref qc, .ref qf, .ref na, .ref df, .ref qi])), (qf, .inr (2, [v0, v1])), (qi, .inl (cI, 8, .inl (nF f)))]) (pl := va_pl L (gE cO G)) (va_runS (As := [.ref x]) (rest := [.int (nI cn), .ref qi]) ⟨hx, hb, hml, hown, hts⟩ (p_Checker_directlyInside l dC dI cB cI cL cZ cC cO qc na df ft tv gw gp nv T fk pp nn fh fl ad tg P cn x S t0 _ hkc hR hL hrs (by omega) hx9) (va_cwS 1 hts (good_S k_758 k_759 k_8 k_760) rfl rfl rfl (by decide +kernel) ⟨Nat.le_of_ble_eq_true rfl, Nat.le_of_ble_eq_true rfl⟩) (wd_preS hK hP hD hS hA hF hE [] (by decide) rfl) rfl rfl hl.1 rfl (lv_room (Nat.le_of_ble_eq_true rfl)) d_Checker_checkRings_39 ⟨Nat.le_of_ble_eq_true rfl, Nat.le_of_ble_eq_true rfl⟩) hP hD hS hA [] [0, 1, 2] rfl rfl (by decide) (by decide) (fun r_5 _ H locs w_4 hP hD hS => ?_)
      have hP : va_P (dC, dI) cl ([(qx, .inr (5, [.ref qc, .ref qf, .ref na, .ref df, .ref qi])), (qf, .inr (2, [v0, v1])), (qi, .inl (cI, 8, .inl (nF f)))] ++ va_pl L (gE cO G)) H := hP
      have hD : va_D A ([(qx, .inr (5, [.ref qc, .ref qf, .ref na, .ref df, .ref qi])), (qf, .inr (2, [v0, v1])), (qi, .inl (cI, 8, .inl (nF f)))] ++ va_pl L (gE cO G)) := hD
      subst w_4
      refine nv_iastN (x := dmk (S.2.2.2.1 44) (P.2.2.1 23 (cn + 1) - P.2.2.1 23 cn) (P.2.2.1 23 cn) 0) hx hb hK hP hD hS 2 1 rfl rfl (by omega) (by decide) d_Checker_checkRings_42 (fun H locs hP hD hS => ?_)
      have hP : va_P (dC, dI) cl ([(qx, .inr (5, [.ref qc, .ref qf, .ref na, .ref df, .ref qi])), (qf, .inr (2, [v0, v1])), (qi, .inl (cI, 8, .inl (nF (va_up f cn (dmk (S.2.2.2.1 44) (P.2.2.1 23 (cn + 1) - P.2.2.1 23 cn) (P.2.2.1 23 cn) 0)))))] ++ va_pl L (gE cO G)) H := hP
      have hD : va_D A ([(qx, .inr (5, [.ref qc, .ref qf, .ref na, .ref df, .ref qi])), (qf, .inr (2, [v0, v1])), (qi, .inl (cI, 8, .inl (nF (va_up f cn (dmk (S.2.2.2.1 44) (P.2.2.1 23 (cn + 1) - P.2.2.1 23 cn) (P.2.2.1 23 cn) 0)))))] ++ va_pl L (gE cO G)) := hD
      refine lv_iinc (v := nI (cn + 1)) (lv' := [(2, .int (nI (cn + 1))), (0, .ref qx), (1, .int (nI (P.1 15)))]) hx hb d_Checker_checkRings_43 hl (k := 2) rfl (nI_1 _) (by decide) rfl (fun ls hl => ?_)
      refine lv_goto (tgt := 18) hx hb d_Checker_checkRings_46 (by decide) ?_
      exact ih (cn + 1) (va_up f cn (dmk (S.2.2.2.1 44) (P.2.2.1 23 (cn + 1) - P.2.2.1 23 cn) (P.2.2.1 23 cn) 0)) H locs ls (by omega) (by omega) (sml_up hsm (dmk_s (fun q9 i9 h9 => h10 q9 i9 h9) _ _ _ (by decide))) (by rw [← hr, dcs_u _ _ _ cn, if_pos (by omega)]) hP hD hS (lv_sub hl [1, 2, 0] rfl)
set_option maxHeartbeats 4000000 in
set_option maxRecDepth 100000 in
theorem lp2_Checker_checkRings {p : Program} {l : Launch} {e : Env} {s : State} {m : MethodId} {args : Array Value} {below : List Frame} {meth : Method} {c : Code} {Q : State → Prop} {A : Nat → Prop} {dC : Nat → ClassId} {dI : Nat → Nat → Nat} {cB cI cL cZ cC cO : ClassId} {t0 : Nat} {L : List Nat} {G : PG} {qx qc qf na df qi : Nat} {v0 v1 : Value} {ft tv gw gp : Nat → Int32} {nv : Nat → Nat} {T : Nat} {fk : Nat → Int32} {pp nn : Nat → Nat} {fh fl : Nat → Int64} {ad : Nat → Nat → Nat} {tg : Nat → Nat × Nat} {P : PS} {S : PS} {F : Nat → Nat} {y : Nat} (hkc : KC ft tv gw gp nv T fk pp nn fh fl P) (hR : RF t0 qc na df ft tv fh fl pp nn G ad tg P) (hL : gL L G) (hrs : ∀ q, q < P.1 24 → G.2.2.2.2.2 (ad 9 q) 2 = (S.2.2.2.1 44 q).map (cad ad) ∧ ∀ i, S.2.2.2.1 44 q = some i → i < P.1 15 + 2) (hy : y < P.1 15) (hx : p.tables.exec = Jvm.exec) (hb : c.code = b_Checker_checkRings) (hml : c.maxLocals = 4) (hown : s.vm.findClass R_Checker = some m.cls) (hts : ∀ w ∈ tb, w.before args s = true) (hA : ∀ q, s.heap.size ≤ q → A q) (hF : stF A s) (hE : stE A t0 s) (hK : va_K (dC, dI) cl [(cB, .byte), (cI, .int), (cL, .long), (cZ, .boolean), (cC, .char), (cO, .object "java/lang/Object")] s)
    (kx : ∀  (H : Heap) (locs : List Loc) (ls : Array Slot), sml F → va_P (dC, dI) cl ([(qx, .inr (5, [.ref qc, .ref qf, .ref na, .ref df, .ref qi])), (qf, .inr (2, [v0, v1])), (qi, .inl (cI, 8, .inl (nF F)))] ++ va_pl L (gE cO G)) H → va_D A ([(qx, .inr (5, [.ref qc, .ref qf, .ref na, .ref df, .ref qi])), (qf, .inr (2, [v0, v1])), (qi, .inl (cI, 8, .inl (nF F)))] ++ va_pl L (gE cO G)) → va_S A s.heap H locs → lv_has ls 4 [(0, .ref qx), (1, .int (nI (P.1 15))), (2, .int (nI y))] → W p l e (headSpec w_Checker_checkRings { frames := 4, cells := 0, slots := 0, locals := 220 }).room s m args below meth c H locs 0 0 Q (F0 m 97 ls [])) :
    ∀ (k : Nat) (cn : Nat) (f : Nat → Nat) (H : Heap) (locs : List Loc) (ls : Array Slot), P.1 15 < cn + k → cn ≤ P.1 15 → sml f → clc y (P.1 15 - cn) cn f = F → va_P (dC, dI) cl ([(qx, .inr (5, [.ref qc, .ref qf, .ref na, .ref df, .ref qi])), (qf, .inr (2, [v0, v1])), (qi, .inl (cI, 8, .inl (nF f)))] ++ va_pl L (gE cO G)) H → va_D A ([(qx, .inr (5, [.ref qc, .ref qf, .ref na, .ref df, .ref qi])), (qf, .inr (2, [v0, v1])), (qi, .inl (cI, 8, .inl (nF f)))] ++ va_pl L (gE cO G)) → va_S A s.heap H locs → lv_has ls 4 [(0, .ref qx), (1, .int (nI (P.1 15))), (2, .int (nI y)), (3, .int (nI cn))] → W p l e (headSpec w_Checker_checkRings { frames := 4, cells := 0, slots := 0, locals := 220 }).room s m args below meth c H locs 0 0 Q (F0 m 58 ls []) := by
  intro k
  induction k with
  | zero =>
    intro cn f H locs ls hk hj hsm hr hP hD hS hl
    exfalso; omega
  | succ k ih =>
    intro cn f H locs ls hk hj hsm hr hP hD hS hl
    have s15 : P.1 15 ≤ 8 := hkc.2.2.1.2.2.2.1.1
    have hlc : LSx t0 G qc (rga (ad 0) 0 (P.1 15)) := (fch_h hR hkc).1
    have hll : (rga (ad 0) 0 (P.1 15)).length = P.1 15 := by rw [rga_len]; omega
    refine lv_iload_n hx hb d_Checker_checkRings_58 rfl (lv_at hl 3 rfl) ?_
    refine lv_iload_n hx hb d_Checker_checkRings_59 rfl (lv_at hl 1 rfl) ?_
    refine nv_icmp_ge (tgt := 97) hx hb (by omega) (by omega) d_Checker_checkRings_60 (by decide) (fun c_1 => ?_) (fun c_1 => ?_)
    · have hq9 : f = F := by rw [← hr, clc_u, if_neg (by omega)]
      subst hq9
      exact kx H locs ls hsm hP hD hS (lv_sub hl [0, 1, 2] rfl)
    · refine lv_aload_n hx hb d_Checker_checkRings_63 rfl (lv_at hl 0 rfl) ?_
      refine va_get (D := (dC, dI)) (ci := 5) (v := .ref qi) (C := R_Checker) (T := F_Checker) (N := 5) hx hb hts i_Checker hown hK hP 0 rfl rfl 4 (by decide) (hts _ k_355) (fun _ h9 => h9) rfl d_Checker_checkRings_64 ?_
      refine lv_iload_n hx hb d_Checker_checkRings_67 rfl (lv_at hl 3 rfl) ?_
      refine nv_iald hx hb hK hP 2 1 rfl rfl (by omega) (by decide) d_Checker_checkRings_68 ?_
      refine lv_iload_n hx hb d_Checker_checkRings_69 rfl (lv_at hl 2 rfl) ?_
      refine lv_ishr hx hb d_Checker_checkRings_70 ?_
      refine lv_iconst (v := nI 1) hx hb d_Checker_checkRings_71 (by decide) ?_
      refine lv_iand hx hb d_Checker_checkRings_72 ?_
      refine W.eq (g2 := F0 m 73 ls [.int (bI ((f cn).testBit y))]) (congrArg (fun z9 => F0 m 73 ls [.int z9]) (shr_8 (hsm _) (by omega))) ?_
      refine nv_bif_eq (tgt := 91) hx hb d_Checker_checkRings_73 (by decide) (fun c_2 => ?_) (fun c_2 => ?_)
      · refine lv_iinc (v := nI (cn + 1)) (lv' := [(3, .int (nI (cn + 1))), (0, .ref qx), (1, .int (nI (P.1 15))), (2, .int (nI y))]) hx hb d_Checker_checkRings_91 hl (k := 3) rfl (nI_1 _) (by decide) rfl (fun ls hl => ?_)
        refine lv_goto (tgt := 58) hx hb d_Checker_checkRings_94 (by decide) ?_
        have ec9 : cl1 y cn f = f := by unfold cl1; rw [if_neg (by rw [c_2]; decide)]
        exact ih (cn + 1) f H locs ls (by omega) (by omega) (ec9 ▸ cl1_s hsm) (by rw [← hr, clc_u _ _ cn, if_pos (by omega), ec9]) hP hD hS (lv_sub hl [1, 2, 3, 0] rfl)
      · refine lv_aload_n hx hb d_Checker_checkRings_76 rfl (lv_at hl 0 rfl) ?_
        refine va_get (D := (dC, dI)) (ci := 5) (v := .ref qi) (C := R_Checker) (T := F_Checker) (N := 5) hx hb hts i_Checker hown hK hP 0 rfl rfl 4 (by decide) (hts _ k_355) (fun _ h9 => h9) rfl d_Checker_checkRings_77 ?_
        refine lv_iload_n hx hb d_Checker_checkRings_80 rfl (lv_at hl 3 rfl) ?_
        refine lv_dup2_11 hx hb d_Checker_checkRings_81 rfl rfl ?_
        refine nv_iald hx hb hK hP 2 1 rfl rfl (by omega) (by decide) d_Checker_checkRings_82 ?_
        refine lv_aload_n hx hb d_Checker_checkRings_83 rfl (lv_at hl 0 rfl) ?_
        refine va_get (D := (dC, dI)) (ci := 5) (v := .ref qi) (C := R_Checker) (T := F_Checker) (N := 5) hx hb hts i_Checker hown hK hP 0 rfl rfl 4 (by decide) (hts _ k_355) (fun _ h9 => h9) rfl d_Checker_checkRings_84 ?_
        refine lv_iload_n hx hb d_Checker_checkRings_87 rfl (lv_at hl 2 rfl) ?_
        refine nv_iald hx hb hK hP 2 1 rfl rfl (by omega) (by decide) d_Checker_checkRings_88 ?_
        refine nv_ior hx hb d_Checker_checkRings_89 ?_
        refine nv_iastN (x := (f cn) ||| (f y)) hx hb hK hP hD hS 2 1 rfl rfl (by omega) (by decide) d_Checker_checkRings_90 (fun H locs hP hD hS => ?_)
        have hP : va_P (dC, dI) cl ([(qx, .inr (5, [.ref qc, .ref qf, .ref na, .ref df, .ref qi])), (qf, .inr (2, [v0, v1])), (qi, .inl (cI, 8, .inl (nF (va_up f cn ((f cn) ||| (f y))))))] ++ va_pl L (gE cO G)) H := hP
        have hD : va_D A ([(qx, .inr (5, [.ref qc, .ref qf, .ref na, .ref df, .ref qi])), (qf, .inr (2, [v0, v1])), (qi, .inl (cI, 8, .inl (nF (va_up f cn ((f cn) ||| (f y))))))] ++ va_pl L (gE cO G)) := hD
        refine lv_iinc (v := nI (cn + 1)) (lv' := [(3, .int (nI (cn + 1))), (0, .ref qx), (1, .int (nI (P.1 15))), (2, .int (nI y))]) hx hb d_Checker_checkRings_91 hl (k := 3) rfl (nI_1 _) (by decide) rfl (fun ls hl => ?_)
        refine lv_goto (tgt := 58) hx hb d_Checker_checkRings_94 (by decide) ?_
        have ec9 : cl1 y cn f = (va_up f cn (f cn ||| f y)) := by unfold cl1; rw [if_pos c_2]
        exact ih (cn + 1) (va_up f cn (f cn ||| f y)) H locs ls (by omega) (by omega) (ec9 ▸ cl1_s hsm) (by rw [← hr, clc_u _ _ cn, if_pos (by omega), ec9]) hP hD hS (lv_sub hl [1, 2, 3, 0] rfl)
set_option maxHeartbeats 4000000 in
set_option maxRecDepth 100000 in
theorem lp3_Checker_checkRings {p : Program} {l : Launch} {e : Env} {s : State} {m : MethodId} {args : Array Value} {below : List Frame} {meth : Method} {c : Code} {Q : State → Prop} {A : Nat → Prop} {dC : Nat → ClassId} {dI : Nat → Nat → Nat} {cB cI cL cZ cC cO : ClassId} {t0 : Nat} {L : List Nat} {G : PG} {qx qc qf na df qi : Nat} {v0 v1 : Value} {ft tv gw gp : Nat → Int32} {nv : Nat → Nat} {T : Nat} {fk : Nat → Int32} {pp nn : Nat → Nat} {fh fl : Nat → Int64} {ad : Nat → Nat → Nat} {tg : Nat → Nat × Nat} {P : PS} {S : PS} {F : Nat → Nat} (hkc : KC ft tv gw gp nv T fk pp nn fh fl P) (hR : RF t0 qc na df ft tv fh fl pp nn G ad tg P) (hL : gL L G) (hrs : ∀ q, q < P.1 24 → G.2.2.2.2.2 (ad 9 q) 2 = (S.2.2.2.1 44 q).map (cad ad) ∧ ∀ i, S.2.2.2.1 44 q = some i → i < P.1 15 + 2) (hx : p.tables.exec = Jvm.exec) (hb : c.code = b_Checker_checkRings) (hml : c.maxLocals = 4) (hown : s.vm.findClass R_Checker = some m.cls) (hts : ∀ w ∈ tb, w.before args s = true) (hA : ∀ q, s.heap.size ≤ q → A q) (hF : stF A s) (hE : stE A t0 s) (hK : va_K (dC, dI) cl [(cB, .byte), (cI, .int), (cL, .long), (cZ, .boolean), (cC, .char), (cO, .object "java/lang/Object")] s)
    (kx : ∀  (H : Heap) (locs : List Loc) (ls : Array Slot), sml F → va_P (dC, dI) cl ([(qx, .inr (5, [.ref qc, .ref qf, .ref na, .ref df, .ref qi])), (qf, .inr (2, [v0, v1])), (qi, .inl (cI, 8, .inl (nF F)))] ++ va_pl L (gE cO G)) H → va_D A ([(qx, .inr (5, [.ref qc, .ref qf, .ref na, .ref df, .ref qi])), (qf, .inr (2, [v0, v1])), (qi, .inl (cI, 8, .inl (nF F)))] ++ va_pl L (gE cO G)) → va_S A s.heap H locs → lv_has ls 4 [(0, .ref qx), (1, .int (nI (P.1 15)))] → W p l e (headSpec w_Checker_checkRings { frames := 4, cells := 0, slots := 0, locals := 220 }).room s m args below meth c H locs 0 0 Q (F0 m 103 ls [])) :
    ∀ (k : Nat) (y : Nat) (f : Nat → Nat) (H : Heap) (locs : List Loc) (ls : Array Slot), P.1 15 < y + k → y ≤ P.1 15 → sml f → clb (P.1 15) (P.1 15 - y) y f = F → va_P (dC, dI) cl ([(qx, .inr (5, [.ref qc, .ref qf, .ref na, .ref df, .ref qi])), (qf, .inr (2, [v0, v1])), (qi, .inl (cI, 8, .inl (nF f)))] ++ va_pl L (gE cO G)) H → va_D A ([(qx, .inr (5, [.ref qc, .ref qf, .ref na, .ref df, .ref qi])), (qf, .inr (2, [v0, v1])), (qi, .inl (cI, 8, .inl (nF f)))] ++ va_pl L (gE cO G)) → va_S A s.heap H locs → lv_has ls 4 [(0, .ref qx), (1, .int (nI (P.1 15))), (2, .int (nI y))] → W p l e (headSpec w_Checker_checkRings { frames := 4, cells := 0, slots := 0, locals := 220 }).room s m args below meth c H locs 0 0 Q (F0 m 51 ls []) := by
  intro k
  induction k with
  | zero =>
    intro y f H locs ls hk hj hsm hr hP hD hS hl
    exfalso; omega
  | succ k ih =>
    intro y f H locs ls hk hj hsm hr hP hD hS hl
    have s15 : P.1 15 ≤ 8 := hkc.2.2.1.2.2.2.1.1
    have hlc : LSx t0 G qc (rga (ad 0) 0 (P.1 15)) := (fch_h hR hkc).1
    have hll : (rga (ad 0) 0 (P.1 15)).length = P.1 15 := by rw [rga_len]; omega
    refine lv_iload_n hx hb d_Checker_checkRings_51 rfl (lv_at hl 2 rfl) ?_
    refine lv_iload_n hx hb d_Checker_checkRings_52 rfl (lv_at hl 1 rfl) ?_
    refine nv_icmp_ge (tgt := 103) hx hb (by omega) (by omega) d_Checker_checkRings_53 (by decide) (fun c_1 => ?_) (fun c_1 => ?_)
    · have hq9 : f = F := by rw [← hr, clb_u, if_neg (by omega)]
      subst hq9
      exact kx H locs ls hsm hP hD hS (lv_sub hl [0, 1] rfl)
    · refine lv_iconst (v := nI 0) hx hb d_Checker_checkRings_56 (by decide) ?_
      refine lv_istore_n (lv' := [(3, .int (nI 0)), (0, .ref qx), (1, .int (nI (P.1 15))), (2, .int (nI y))]) hx hb d_Checker_checkRings_57 rfl hl (by decide) rfl (fun ls hl => ?_)
      refine lp2_Checker_checkRings (F := clc y (P.1 15) 0 f) hkc hR hL hrs (by omega) hx hb hml hown hts hA hF hE hK (fun H locs ls hsm hP hD hS hl => ?_) (P.1 15 + 1) 0 f _ _ ls (by omega) (by omega) hsm rfl hP hD hS (lv_sub hl [1, 2, 3, 0] rfl)
      refine lv_iinc (v := nI (y + 1)) (lv' := [(2, .int (nI (y + 1))), (0, .ref qx), (1, .int (nI (P.1 15)))]) hx hb d_Checker_checkRings_97 hl (k := 2) rfl (nI_1 _) (by decide) rfl (fun ls hl => ?_)
      refine lv_goto (tgt := 51) hx hb d_Checker_checkRings_100 (by decide) ?_
      exact ih (y + 1) (clc y (P.1 15) 0 f) H locs ls (by omega) (by omega) hsm (by rw [← hr, clb_u _ _ y, if_pos (by omega)]) hP hD hS (lv_sub hl [1, 2, 0] rfl)
set_option maxHeartbeats 4000000 in
set_option maxRecDepth 100000 in
theorem lp4_Checker_checkRings {p : Program} {l : Launch} {e : Env} {s : State} {m : MethodId} {args : Array Value} {below : List Frame} {meth : Method} {c : Code} {Q : State → Prop} {A : Nat → Prop} {dC : Nat → ClassId} {dI : Nat → Nat → Nat} {cB cI cL cZ cC cO : ClassId} {t0 : Nat} {L : List Nat} {G : PG} {qx qc qf na df qi : Nat} {v0 v1 : Value} {ft tv gw gp : Nat → Int32} {nv : Nat → Nat} {T : Nat} {fk : Nat → Int32} {pp nn : Nat → Nat} {fh fl : Nat → Int64} {ad : Nat → Nat → Nat} {tg : Nat → Nat × Nat} {P : PS} {S : PS} {f : Nat → Nat} {F : Option Nat} (hkc : KC ft tv gw gp nv T fk pp nn fh fl P) (hR : RF t0 qc na df ft tv fh fl pp nn G ad tg P) (hL : gL L G) (hrs : ∀ q, q < P.1 24 → G.2.2.2.2.2 (ad 9 q) 2 = (S.2.2.2.1 44 q).map (cad ad) ∧ ∀ i, S.2.2.2.1 44 q = some i → i < P.1 15 + 2) (hsm : sml f) (hx : p.tables.exec = Jvm.exec) (hb : c.code = b_Checker_checkRings) (hml : c.maxLocals = 4) (hown : s.vm.findClass R_Checker = some m.cls) (hts : ∀ w ∈ tb, w.before args s = true) (hA : ∀ q, s.heap.size ≤ q → A q) (hF : stF A s) (hE : stE A t0 s) (hK : va_K (dC, dI) cl [(cB, .byte), (cI, .int), (cL, .long), (cZ, .boolean), (cC, .char), (cO, .object "java/lang/Object")] s)
    (kx0 : ∀  (H : Heap) (locs : List Loc) (ls : Array Slot), F = none → va_P (dC, dI) cl ([(qx, .inr (5, [.ref qc, .ref qf, .ref na, .ref df, .ref qi])), (qf, .inr (2, [v0, v1])), (qi, .inl (cI, 8, .inl (nF f)))] ++ va_pl L (gE cO G)) H → va_D A ([(qx, .inr (5, [.ref qc, .ref qf, .ref na, .ref df, .ref qi])), (qf, .inr (2, [v0, v1])), (qi, .inl (cI, 8, .inl (nF f)))] ++ va_pl L (gE cO G)) → va_S A s.heap H locs → lv_has ls 4 [(0, .ref qx), (1, .int (nI (P.1 15)))] → W p l e (headSpec w_Checker_checkRings { frames := 4, cells := 0, slots := 0, locals := 220 }).room s m args below meth c H locs 0 0 Q (F0 m 156 ls [])) (kx1 : ∀ (cn : Nat) (H : Heap) (locs : List Loc) (ls : Array Slot), F = some cn → va_P (dC, dI) cl ([(qx, .inr (5, [.ref qc, .ref qf, .ref na, .ref df, .ref qi])), (qf, .inr (2, [.int (nI 6), .int (oI (some (pp (P.2.2.1 16 cn))))])), (qi, .inl (cI, 8, .inl (nF f)))] ++ va_pl L (gE cO G)) H → va_D A ([(qx, .inr (5, [.ref qc, .ref qf, .ref na, .ref df, .ref qi])), (qf, .inr (2, [.int (nI 6), .int (oI (some (pp (P.2.2.1 16 cn))))])), (qi, .inl (cI, 8, .inl (nF f)))] ++ va_pl L (gE cO G)) → va_S A s.heap H locs → lv_has ls 4 [(0, .ref qx), (1, .int (nI (P.1 15)))] → W p l e (headSpec w_Checker_checkRings { frames := 4, cells := 0, slots := 0, locals := 220 }).room s m args below meth c H locs 0 0 Q (F0 m 149 ls [.int (bI false)])) :
    ∀ (k : Nat) (cn : Nat) (H : Heap) (locs : List Loc) (ls : Array Slot), P.1 15 < cn + k → cn ≤ P.1 15 → fsc f (P.1 15 - cn) cn = F → va_P (dC, dI) cl ([(qx, .inr (5, [.ref qc, .ref qf, .ref na, .ref df, .ref qi])), (qf, .inr (2, [v0, v1])), (qi, .inl (cI, 8, .inl (nF f)))] ++ va_pl L (gE cO G)) H → va_D A ([(qx, .inr (5, [.ref qc, .ref qf, .ref na, .ref df, .ref qi])), (qf, .inr (2, [v0, v1])), (qi, .inl (cI, 8, .inl (nF f)))] ++ va_pl L (gE cO G)) → va_S A s.heap H locs → lv_has ls 4 [(0, .ref qx), (1, .int (nI (P.1 15))), (2, .int (nI cn))] → W p l e (headSpec w_Checker_checkRings { frames := 4, cells := 0, slots := 0, locals := 220 }).room s m args below meth c H locs 0 0 Q (F0 m 105 ls []) := by
  intro k
  induction k with
  | zero =>
    intro cn H locs ls hk hj hr hP hD hS hl
    exfalso; omega
  | succ k ih =>
    intro cn H locs ls hk hj hr hP hD hS hl
    have s15 : P.1 15 ≤ 8 := hkc.2.2.1.2.2.2.1.1
    have hlc : LSx t0 G qc (rga (ad 0) 0 (P.1 15)) := (fch_h hR hkc).1
    have hll : (rga (ad 0) 0 (P.1 15)).length = P.1 15 := by rw [rga_len]; omega
    refine lv_iload_n hx hb d_Checker_checkRings_105 rfl (lv_at hl 2 rfl) ?_
    refine lv_iload_n hx hb d_Checker_checkRings_106 rfl (lv_at hl 1 rfl) ?_
    refine nv_icmp_ge (tgt := 156) hx hb (by omega) (by omega) d_Checker_checkRings_107 (by decide) (fun c_1 => ?_) (fun c_1 => ?_)
    · have hq9 : none = F := by rw [← hr, fsc_u, if_neg (by omega)]
      exact kx0 H locs ls hq9.symm hP hD hS (lv_sub hl [0, 1] rfl)
    · refine lv_aload_n hx hb d_Checker_checkRings_110 rfl (lv_at hl 0 rfl) ?_
      refine va_get (D := (dC, dI)) (ci := 5) (v := .ref qi) (C := R_Checker) (T := F_Checker) (N := 5) hx hb hts i_Checker hown hK hP 0 rfl rfl 4 (by decide) (hts _ k_355) (fun _ h9 => h9) rfl d_Checker_checkRings_111 ?_
      refine lv_iload_n hx hb d_Checker_checkRings_114 rfl (lv_at hl 2 rfl) ?_
      refine nv_iald hx hb hK hP 2 1 rfl rfl (by omega) (by decide) d_Checker_checkRings_115 ?_
      refine lv_iload_n hx hb d_Checker_checkRings_116 rfl (lv_at hl 2 rfl) ?_
      refine lv_ishr hx hb d_Checker_checkRings_117 ?_
      refine lv_iconst (v := nI 1) hx hb d_Checker_checkRings_118 (by decide) ?_
      refine lv_iand hx hb d_Checker_checkRings_119 ?_
      refine W.eq (g2 := F0 m 120 ls [.int (bI ((f cn).testBit cn))]) (congrArg (fun z9 => F0 m 120 ls [.int z9]) (shr_8 (hsm _) (by omega))) ?_
      refine nv_bif_eq (tgt := 150) hx hb d_Checker_checkRings_120 (by decide) (fun c_2 => ?_) (fun c_2 => ?_)
      · refine lv_iinc (v := nI (cn + 1)) (lv' := [(2, .int (nI (cn + 1))), (0, .ref qx), (1, .int (nI (P.1 15)))]) hx hb d_Checker_checkRings_150 hl (k := 2) rfl (nI_1 _) (by decide) rfl (fun ls hl => ?_)
        refine lv_goto (tgt := 105) hx hb d_Checker_checkRings_153 (by decide) ?_
        exact ih (cn + 1) H locs ls (by omega) (by omega) (by rw [← hr, fsc_u _ _ cn, if_pos (by omega), if_neg (by rw [c_2]; decide)]) hP hD hS (lv_sub hl [1, 2, 0] rfl)
      · refine lv_aload_n hx hb d_Checker_checkRings_123 rfl (lv_at hl 0 rfl) ?_
        refine va_get (D := (dC, dI)) (ci := 5) (v := .ref qf) (C := R_Checker) (T := F_Checker) (N := 5) hx hb hts i_Checker hown hK hP 0 rfl rfl 1 (by decide) (hts _ k_352) (fun _ h9 => h9) rfl d_Checker_checkRings_124 ?_
        refine lv_bipush (v := nI 6) hx hb d_Checker_checkRings_127 (by decide) ?_
        refine lv_aload_n hx hb d_Checker_checkRings_129 rfl (lv_at hl 0 rfl) ?_
        refine va_get (D := (dC, dI)) (ci := 5) (v := .ref qc) (C := R_Checker) (T := F_Checker) (N := 5) hx hb hts i_Checker hown hK hP 0 rfl rfl 0 (by decide) (hts _ k_351) (fun _ h9 => h9) rfl d_Checker_checkRings_130 ?_
        refine lv_iload_n hx hb d_Checker_checkRings_133 rfl (lv_at hl 2 rfl) ?_
        obtain ⟨x, hxi⟩ : ∃ z, (rga (ad 0) 0 (P.1 15))[cn]? = some z := ⟨_, List.getElem?_eq_getElem (by omega)⟩
        refine wd_q (cx := []) (wr := [(qx, .inr (5, [.ref qc, .ref qf, .ref na, .ref df, .ref qi])), (qf, .inr (2, [v0, v1])), (qi, .inl (cI, 8, .inl (nF f)))]) (pl := va_pl L (gE cO G)) (va_runV (As := [.int (nI cn)]) (rest := [.int (nI 6), .ref qf]) ⟨hx, hb, hml, hown, hts⟩ (p_List_get l dC dI cB cI cL cZ cC cO (G := G) qc (cn) (rga (ad 0) 0 (P.1 15)) t0 _ hL hlc (by omega)) (cwV 1 hts (good_V k_688 k_329 k_330 k_7 k_331) rfl rfl rfl (by decide +kernel) ⟨Nat.le_of_ble_eq_true rfl, Nat.le_of_ble_eq_true rfl⟩) (wd_preV (ci := 4) (r := (R_List, F_List, 3)) hK hP hD hS hA hF hE [] (by decide) rfl rfl (pq_at (gL_m hL hlc.k.1 (by decide)) (gE_7 (G := G) hlc.k.1))) rfl rfl hl.1 rfl (lv_room (Nat.le_of_ble_eq_true rfl)) d_Checker_checkRings_134 ⟨Nat.le_of_ble_eq_true rfl, Nat.le_of_ble_eq_true rfl⟩) hP hD hS hA [] [0, 1, 2] rfl rfl (by decide) (by decide) (fun r_4 _ H locs w_3 hP hD hS => ?_)
        have hP : va_P (dC, dI) cl ([(qx, .inr (5, [.ref qc, .ref qf, .ref na, .ref df, .ref qi])), (qf, .inr (2, [v0, v1])), (qi, .inl (cI, 8, .inl (nF f)))] ++ va_pl L (gE cO G)) H := hP
        have hD : va_D A ([(qx, .inr (5, [.ref qc, .ref qf, .ref na, .ref df, .ref qi])), (qf, .inr (2, [v0, v1])), (qi, .inl (cI, 8, .inl (nF f)))] ++ va_pl L (gE cO G)) := hD
        rw [hxi] at w_3
        subst w_3
        have hx9 : ad 0 cn = x := by rw [rga_get (by omega)] at hxi; rw [Nat.zero_add] at hxi; exact Option.some.inj hxi
        obtain ⟨cc1, cc2, -⟩ := hR.2.2.2.2.1 cn (by omega)
        rw [hx9] at cc1
        obtain ⟨nm, hnm⟩ : ∃ z, z = ad 1 cn := ⟨_, rfl⟩
        rw [← hnm] at cc1 cc2
        refine pq_cast (ci := 6) (C := R_Chip) (T := F_Chip) (N := 9) hx hb hown (hts _ k_689) (hF.2.2.2.2 _ (List.mem_of_getElem? (i := 4) rfl)) hK hP (gL_m hL cc1.1 (by decide)) (gE_6 (G := G) cc1.1) rfl d_Checker_checkRings_137 ?_
        refine pq_get (D := (dC, dI)) (ci := 6) (v := .ref nm) (C := R_Chip) (T := F_Chip) (N := 9) hx hb hts i_Chip hown hK hP (gL_m hL cc1.1 (by decide)) (gE_6 (G := G) cc1.1) rfl 0 (by decide) (hts _ k_166) (fun _ h9 => h9) (congrArg (fun z9 => some (va_rf z9)) cc1.2.1) d_Checker_checkRings_140 ?_
        refine pq_get (D := (dC, dI)) (ci := 7) (v := .int (oI (some (pp (P.2.2.1 16 cn))))) (C := R_Name) (T := F_Name) (N := 3) hx hb hts i_Name hown hK hP (gL_m hL cc2.1 (by decide)) (gE_1 (G := G) cc2.1) rfl 2 (by decide) (hts _ k_150) (fun _ h9 => h9) (congrArg (fun z9 => some (Value.int (oI z9))) cc2.2.2.2) d_Checker_checkRings_143 ?_
        refine we_i (cx := [(qf, .inr (2, [v0, v1]))]) (wr := [(qx, .inr (5, [.ref qc, .ref qf, .ref na, .ref df, .ref qi])), (qi, .inl (cI, 8, .inl (nF f)))]) (pl := va_pl L (gE cO G)) (va_runV (As := [.int (nI 6), .int (oI (some (pp (P.2.2.1 16 cn))))]) (rest := []) ⟨hx, hb, hml, hown, hts⟩ (c_Fault_note l dC dI cB cI cL cZ cC cO qf (nI 6) (oI (some (pp (P.2.2.1 16 cn)))) _ ) (cwV 2 hts (good_V k_695 k_534 k_535 k_3 k_536) rfl rfl rfl (by decide +kernel) ⟨Nat.le_of_ble_eq_true rfl, Nat.le_of_ble_eq_true rfl⟩) (wc_preV (k0 := 1) (ci := 2) (r := (R_Fault, F_Fault, 2)) hK hP hD hS hA hF [1] (by decide) rfl rfl rfl) rfl rfl hl.1 rfl (lv_room (Nat.le_of_ble_eq_true rfl)) d_Checker_checkRings_146 ⟨Nat.le_of_ble_eq_true rfl, Nat.le_of_ble_eq_true rfl⟩) hP hD hS hA [1] [0, 2] rfl rfl (by decide) (by decide) (fun r_6 _ H locs w_5 hP hD hS => ?_)
        have hP : va_P (dC, dI) cl ([(qx, .inr (5, [.ref qc, .ref qf, .ref na, .ref df, .ref qi])), (qi, .inl (cI, 8, .inl (nF f))), (qf, .inr (2, [.int (nI 6), .int (oI (some (pp (P.2.2.1 16 cn))))]))] ++ va_pl L (gE cO G)) H := hP
        have hD : va_D A ([(qx, .inr (5, [.ref qc, .ref qf, .ref na, .ref df, .ref qi])), (qi, .inl (cI, 8, .inl (nF f))), (qf, .inr (2, [.int (nI 6), .int (oI (some (pp (P.2.2.1 16 cn))))]))] ++ va_pl L (gE cO G)) := hD
        subst w_5
        have hq9 : F = some cn := by rw [← hr, fsc_u, if_pos (by omega), if_pos c_2]
        exact kx1 cn H locs ls hq9 (hP.part [0, 2, 1] rfl) (hD.part [0, 2, 1] (by decide) rfl) hS (lv_sub hl [0, 1] rfl)
set_option maxHeartbeats 4000000 in
set_option maxRecDepth 100000 in
/-- checkRings() -/
theorem p_Checker_checkRings (l : Launch) (dC : Nat → ClassId) (dI : Nat → Nat → Nat) (cB cI cL cZ cC cO : ClassId) {L : List Nat} {G : PG} (qx qc qf na df qi : Nat) (v0 v1 : Value) (ft tv gw gp : Nat → Int32) (nv : Nat → Nat) (T : Nat) (fk : Nat → Int32) (pp nn : Nat → Nat) (fh fl : Nat → Int64) (ad : Nat → Nat → Nat) (tg : Nat → Nat × Nat) (P : PS) (S : PS) (f : Nat → Nat) (t0 sz : Nat) (hkc : KC ft tv gw gp nv T fk pp nn fh fl P) (hR : RF t0 qc na df ft tv fh fl pp nn G ad tg P) (hL : gL L G) (hrs : ∀ q, q < P.1 24 → G.2.2.2.2.2 (ad 9 q) 2 = (S.2.2.2.1 44 q).map (cad ad) ∧ ∀ i, S.2.2.2.1 44 q = some i → i < P.1 15 + 2) (h10 : ∀ q i, S.2.2.2.1 44 q = some i → i < 10) (hsm : sml f) : Met l y_Checker_checkRings w_Checker_checkRings ({ frames := 4, cells := 0, slots := 0, locals := 220 }) (va_Pc [.ref qx] (wB2 (dC, dI) cl [(cB, .byte), (cI, .int), (cL, .long), (cZ, .boolean), (cC, .char), (cO, .object "java/lang/Object")] sz t0 ([(qx, .inr (5, [.ref qc, .ref qf, .ref na, .ref df, .ref qi])), (qf, .inr (2, [v0, v1])), (qi, .inl (cI, 8, .inl (nF f)))] ++ va_pl L (gE cO G)))) (va_Qi (fun (r : Int32) (u : Value × Value) => r = bI (decide ((fsc (clb (P.1 15) (P.1 15) 0 (dcs (S.2.2.2.1 44) (P.2.2.1 23) (P.1 15) 0 f)) (P.1 15) 0) = none)) ∧ u = fpr (fpt pp ((fsc (clb (P.1 15) (P.1 15) 0 (dcs (S.2.2.2.1 44) (P.2.2.1 23) (P.1 15) 0 f)) (P.1 15) 0).map (fun c => (6, P.2.2.1 16 c)))) v0 v1) (fun u t => wA (dC, dI) cl [(cB, .byte), (cI, .int), (cL, .long), (cZ, .boolean), (cC, .char), (cO, .object "java/lang/Object")] (va_A ([(qx, .inr (5, [.ref qc, .ref qf, .ref na, .ref df, .ref qi])), (qf, .inr (2, [v0, v1])), (qi, .inl (cI, 8, .inl (nF f)))] ++ va_pl L (gE cO G)) sz) ([(qx, .inr (5, [.ref qc, .ref qf, .ref na, .ref df, .ref qi])), (qf, .inr (2, [u.1, u.2])), (qi, .inl (cI, 8, .inl (nF (clb (P.1 15) (P.1 15) 0 (dcs (S.2.2.2.1 44) (P.2.2.1 23) (P.1 15) 0 f)))))] ++ va_pl L (gE cO G)) t) (va_A ([(qx, .inr (5, [.ref qc, .ref qf, .ref na, .ref df, .ref qi])), (qf, .inr (2, [v0, v1])), (qi, .inl (cI, 8, .inl (nF f)))] ++ va_pl L (gE cO G)) sz)) 0 0 (va_A ([(qx, .inr (5, [.ref qc, .ref qf, .ref na, .ref df, .ref qi])), (qf, .inr (2, [v0, v1])), (qi, .inl (cI, 8, .inl (nF f)))] ++ va_pl L (gE cO G)) sz) := by
  refine Met.ofW (cc := b_Checker_checkRings) (maxL := 4) (ret := (some ClassFile.FieldType.boolean)) (by decide) rfl ?_
  intro p e s m args below meth c s₁ B hml hv
  obtain ⟨rfl, ⟨hsz, hP, hK, hD0, hF⟩, hE⟩ := hv
  have hx := B.exec
  have hb := B.bytes
  have hr := B.returns
  have hts := atoms_spec (ws := w_Checker_checkRings) B.pre
  have hts : ∀ w ∈ tb, w.before _ s = true := fun w h => hts w (List.mem_cons_of_mem _ h)
  have hown : s.vm.findClass R_Checker = some m.cls := findClass_of_methodNamed B.named
  have hlocks := B.notSynchronized
  subst hsz
  have hD := hD0.self (sz := s.heap.size)
  generalize hAe : va_A ([(qx, .inr (5, [.ref qc, .ref qf, .ref na, .ref df, .ref qi])), (qf, .inr (2, [v0, v1])), (qi, .inl (cI, 8, .inl (nF f)))] ++ va_pl L (gE cO G)) s.heap.size = A at hD hF hE ⊢
  have hA : ∀ q : Nat, s.heap.size ≤ q → A q := fun q h => by rw [← hAe]; exact Or.inr h
  have hS : va_S A s.heap s.heap [] := va_S.rf
  have hP : va_P (dC, dI) cl ([(qx, .inr (5, [.ref qc, .ref qf, .ref na, .ref df, .ref qi])), (qf, .inr (2, [v0, v1])), (qi, .inl (cI, 8, .inl (nF f)))] ++ va_pl L (gE cO G)) s.heap := hP
  have hl := lv_entry ([.ref qx]) (n := 4) (Nat.le_of_ble_eq_true rfl)
  rw [lg_entry_eq]
  generalize (lg_sl ([.ref qx]) ++ List.replicate (4 - (lg_sl ([.ref qx])).length) Slot.unset).toArray = ls at hl ⊢
  have hl : lv_has ls 4 [(0, .ref qx)] := hl
  have s15 : P.1 15 ≤ 8 := hkc.2.2.1.2.2.2.1.1
  have hlc : LSx t0 G qc (rga (ad 0) 0 (P.1 15)) := (fch_h hR hkc).1
  have hll : (rga (ad 0) 0 (P.1 15)).length = P.1 15 := by rw [rga_len]; omega
  refine lv_aload_n hx hb d_Checker_checkRings_0 rfl (lv_at hl 0 rfl) ?_
  refine va_get (D := (dC, dI)) (ci := 5) (v := .ref qc) (C := R_Checker) (T := F_Checker) (N := 5) hx hb hts i_Checker hown hK hP 0 rfl rfl 0 (by decide) (hts _ k_351) (fun _ h9 => h9) rfl d_Checker_checkRings_1 ?_
  refine wd_i (cx := []) (wr := [(qx, .inr (5, [.ref qc, .ref qf, .ref na, .ref df, .ref qi])), (qf, .inr (2, [v0, v1])), (qi, .inl (cI, 8, .inl (nF f)))]) (pl := va_pl L (gE cO G)) (va_runV (As := []) (rest := []) ⟨hx, hb, hml, hown, hts⟩ (p_List_size l dC dI cB cI cL cZ cC cO (G := G) qc t0 _ hL hlc.k.1) (cwV 0 hts (good_V k_687 k_325 k_326 k_7 k_327) rfl rfl rfl (by decide +kernel) ⟨Nat.le_of_ble_eq_true rfl, Nat.le_of_ble_eq_true rfl⟩) (wd_preV (ci := 4) (r := (R_List, F_List, 3)) hK hP hD hS hA hF hE [] (by decide) rfl rfl (pq_at (gL_m hL hlc.k.1 (by decide)) (gE_7 (G := G) hlc.k.1))) rfl rfl hl.1 rfl (lv_room (Nat.le_of_ble_eq_true rfl)) d_Checker_checkRings_4 ⟨Nat.le_of_ble_eq_true rfl, Nat.le_of_ble_eq_true rfl⟩) hP hD hS hA [] [0, 1, 2] rfl rfl (by decide) (by decide) (fun r_2 _ H locs w_1 hP hD hS => ?_)
  have hP : va_P (dC, dI) cl ([(qx, .inr (5, [.ref qc, .ref qf, .ref na, .ref df, .ref qi])), (qf, .inr (2, [v0, v1])), (qi, .inl (cI, 8, .inl (nF f)))] ++ va_pl L (gE cO G)) H := hP
  have hD : va_D A ([(qx, .inr (5, [.ref qc, .ref qf, .ref na, .ref df, .ref qi])), (qf, .inr (2, [v0, v1])), (qi, .inl (cI, 8, .inl (nF f)))] ++ va_pl L (gE cO G)) := hD
  rw [hlc.k.2] at w_1
  subst w_1
  refine lv_aload_n hx hb d_Checker_checkRings_7 rfl (lv_at hl 0 rfl) ?_
  refine va_get (D := (dC, dI)) (ci := 5) (v := .ref qi) (C := R_Checker) (T := F_Checker) (N := 5) hx hb hts i_Checker hown hK hP 0 rfl rfl 4 (by decide) (hts _ k_355) (fun _ h9 => h9) rfl d_Checker_checkRings_8 ?_
  refine va_alen (v := nI 8) hx hb hK hP 2 1 rfl rfl rfl d_Checker_checkRings_11 ?_
  refine va_mmin hx hb (by rw [hml]; exact hl.1.symm) hown (hts _ k_757) (hts _ k_308) (hts _ k_13) (hts _ k_309) (Nat.le_of_ble_eq_true rfl) (Nat.le_of_ble_eq_true rfl) (Nat.le_of_ble_eq_true rfl) (Nat.le_of_ble_eq_true rfl) d_Checker_checkRings_12 ?_
  rw [show (if nI 8 < nI ((rga (ad 0) 0 (P.1 15)).length) then nI 8 else nI ((rga (ad 0) 0 (P.1 15)).length)) = nI (min ((rga (ad 0) 0 (P.1 15)).length) 8) from nI_min (by omega) (by omega)]
  refine W.eq (g2 := F0 m 15 ls [.int (nI (P.1 15))]) (congrArg (fun z9 => F0 m 15 ls [.int (nI z9)]) (by omega)) ?_
  refine lv_istore_n (lv' := [(1, .int (nI (P.1 15))), (0, .ref qx)]) hx hb d_Checker_checkRings_15 rfl hl (by decide) rfl (fun ls hl => ?_)
  refine lv_iconst (v := nI 0) hx hb d_Checker_checkRings_16 (by decide) ?_
  refine lv_istore_n (lv' := [(2, .int (nI 0)), (1, .int (nI (P.1 15))), (0, .ref qx)]) hx hb d_Checker_checkRings_17 rfl hl (by decide) rfl (fun ls hl => ?_)
  refine lp1_Checker_checkRings (F := (dcs (S.2.2.2.1 44) (P.2.2.1 23) (P.1 15) 0 f)) hkc hR hL hrs h10 hx hb hml hown hts hA hF hE hK (fun H locs ls hsm hP hD hS hl => ?_) (P.1 15 + 1) 0 f _ _ ls (by omega) (by omega) hsm rfl hP hD hS (lv_sub hl [2, 1, 0] rfl)
  refine lv_iconst (v := nI 0) hx hb d_Checker_checkRings_49 (by decide) ?_
  refine lv_istore_n (lv' := [(2, .int (nI 0)), (0, .ref qx), (1, .int (nI (P.1 15)))]) hx hb d_Checker_checkRings_50 rfl hl (by decide) rfl (fun ls hl => ?_)
  refine lp3_Checker_checkRings (F := (clb (P.1 15) (P.1 15) 0 (dcs (S.2.2.2.1 44) (P.2.2.1 23) (P.1 15) 0 f))) hkc hR hL hrs hx hb hml hown hts hA hF hE hK (fun H locs ls hsm hP hD hS hl => ?_) (P.1 15 + 1) 0 (dcs (S.2.2.2.1 44) (P.2.2.1 23) (P.1 15) 0 f) _ _ ls (by omega) (by omega) hsm rfl hP hD hS (lv_sub hl [1, 2, 0] rfl)
  refine lv_iconst (v := nI 0) hx hb d_Checker_checkRings_103 (by decide) ?_
  refine lv_istore_n (lv' := [(2, .int (nI 0)), (0, .ref qx), (1, .int (nI (P.1 15)))]) hx hb d_Checker_checkRings_104 rfl hl (by decide) rfl (fun ls hl => ?_)
  refine lp4_Checker_checkRings (F := (fsc (clb (P.1 15) (P.1 15) 0 (dcs (S.2.2.2.1 44) (P.2.2.1 23) (P.1 15) 0 f)) (P.1 15) 0)) hkc hR hL hrs hsm hx hb hml hown hts hA hF hE hK (fun H locs ls hF9 hP hD hS hl => ?_) (fun cn H locs ls hF9 hP hD hS hl => ?_) (P.1 15 + 1) 0 _ _ ls (by omega) (by omega) rfl hP hD hS (lv_sub hl [1, 2, 0] rfl)
  · refine lv_iconst (v := nI 1) hx hb d_Checker_checkRings_156 (by decide) ?_
    exact wr_z (x := true) hx hb hr hlocks (v0, v1) ⟨by rw [hF9]; rfl, by rw [hF9]; rfl⟩ hK hP hD hS d_Checker_checkRings_157
  · exact wr_z (x := false) hx hb hr hlocks (.int (nI 6), .int (oI (some (pp (P.2.2.1 16 cn))))) ⟨by rw [hF9]; rfl, by rw [hF9]; rfl⟩ hK hP hD hS d_Checker_checkRings_149
