theorem d_Checker_findChip_0 : decode b_Checker_findChip 0 = .ok (.aload_n 1, 1) := by decide +kernel
theorem d_Checker_findChip_1 : decode b_Checker_findChip 1 = .ok (.aload_n 0, 1) := by decide +kernel
theorem d_Checker_findChip_2 : decode b_Checker_findChip 2 = .ok (.getfield 13, 3) := by decide +kernel
theorem d_Checker_findChip_5 : decode b_Checker_findChip 5 = .ok (.getfield 47, 3) := by decide +kernel
theorem d_Checker_findChip_8 : decode b_Checker_findChip 8 = .ok (.invokevirtual 85, 3) := by decide +kernel
theorem d_Checker_findChip_11 : decode b_Checker_findChip 11 = .ok (.ifCond .eq 8, 3) := by decide +kernel
theorem d_Checker_findChip_14 : decode b_Checker_findChip 14 = .ok (.aload_n 0, 1) := by decide +kernel
theorem d_Checker_findChip_15 : decode b_Checker_findChip 15 = .ok (.getfield 13, 3) := by decide +kernel
theorem d_Checker_findChip_18 : decode b_Checker_findChip 18 = .ok (.areturn, 1) := by decide +kernel
theorem d_Checker_findChip_19 : decode b_Checker_findChip 19 = .ok (.aload_n 1, 1) := by decide +kernel
theorem d_Checker_findChip_20 : decode b_Checker_findChip 20 = .ok (.aload_n 0, 1) := by decide +kernel
theorem d_Checker_findChip_21 : decode b_Checker_findChip 21 = .ok (.getfield 21, 3) := by decide +kernel
theorem d_Checker_findChip_24 : decode b_Checker_findChip 24 = .ok (.getfield 47, 3) := by decide +kernel
theorem d_Checker_findChip_27 : decode b_Checker_findChip 27 = .ok (.invokevirtual 85, 3) := by decide +kernel
theorem d_Checker_findChip_30 : decode b_Checker_findChip 30 = .ok (.ifCond .eq 8, 3) := by decide +kernel
theorem d_Checker_findChip_33 : decode b_Checker_findChip 33 = .ok (.aload_n 0, 1) := by decide +kernel
theorem d_Checker_findChip_34 : decode b_Checker_findChip 34 = .ok (.getfield 21, 3) := by decide +kernel
theorem d_Checker_findChip_37 : decode b_Checker_findChip 37 = .ok (.areturn, 1) := by decide +kernel
theorem d_Checker_findChip_38 : decode b_Checker_findChip 38 = .ok (.iconst 0, 1) := by decide +kernel
theorem d_Checker_findChip_39 : decode b_Checker_findChip 39 = .ok (.istore_n 2, 1) := by decide +kernel
theorem d_Checker_findChip_40 : decode b_Checker_findChip 40 = .ok (.iload_n 2, 1) := by decide +kernel
theorem d_Checker_findChip_41 : decode b_Checker_findChip 41 = .ok (.aload_n 0, 1) := by decide +kernel
theorem d_Checker_findChip_42 : decode b_Checker_findChip 42 = .ok (.getfield 29, 3) := by decide +kernel
theorem d_Checker_findChip_45 : decode b_Checker_findChip 45 = .ok (.invokevirtual 37, 3) := by decide +kernel
theorem d_Checker_findChip_48 : decode b_Checker_findChip 48 = .ok (.if_icmp .ge 42, 3) := by decide +kernel
theorem d_Checker_findChip_51 : decode b_Checker_findChip 51 = .ok (.aload_n 0, 1) := by decide +kernel
theorem d_Checker_findChip_52 : decode b_Checker_findChip 52 = .ok (.getfield 29, 3) := by decide +kernel
theorem d_Checker_findChip_55 : decode b_Checker_findChip 55 = .ok (.iload_n 2, 1) := by decide +kernel
theorem d_Checker_findChip_56 : decode b_Checker_findChip 56 = .ok (.invokevirtual 43, 3) := by decide +kernel
theorem d_Checker_findChip_59 : decode b_Checker_findChip 59 = .ok (.checkcast 8, 3) := by decide +kernel
theorem d_Checker_findChip_62 : decode b_Checker_findChip 62 = .ok (.getfield 47, 3) := by decide +kernel
theorem d_Checker_findChip_65 : decode b_Checker_findChip 65 = .ok (.aload_n 1, 1) := by decide +kernel
theorem d_Checker_findChip_66 : decode b_Checker_findChip 66 = .ok (.invokevirtual 85, 3) := by decide +kernel
theorem d_Checker_findChip_69 : decode b_Checker_findChip 69 = .ok (.ifCond .eq 15, 3) := by decide +kernel
theorem d_Checker_findChip_72 : decode b_Checker_findChip 72 = .ok (.aload_n 0, 1) := by decide +kernel
theorem d_Checker_findChip_73 : decode b_Checker_findChip 73 = .ok (.getfield 29, 3) := by decide +kernel
theorem d_Checker_findChip_76 : decode b_Checker_findChip 76 = .ok (.iload_n 2, 1) := by decide +kernel
theorem d_Checker_findChip_77 : decode b_Checker_findChip 77 = .ok (.invokevirtual 43, 3) := by decide +kernel
theorem d_Checker_findChip_80 : decode b_Checker_findChip 80 = .ok (.checkcast 8, 3) := by decide +kernel
theorem d_Checker_findChip_83 : decode b_Checker_findChip 83 = .ok (.areturn, 1) := by decide +kernel
theorem d_Checker_findChip_84 : decode b_Checker_findChip 84 = .ok (.iinc 2 1, 3) := by decide +kernel
theorem d_Checker_findChip_87 : decode b_Checker_findChip 87 = .ok (.goto (-47), 3) := by decide +kernel
theorem d_Checker_findChip_90 : decode b_Checker_findChip 90 = .ok (.aconst_null, 1) := by decide +kernel
theorem d_Checker_findChip_91 : decode b_Checker_findChip 91 = .ok (.areturn, 1) := by decide +kernel
theorem fsm_sy {G : PG} {wn x nm : Nat} (h : G.2.2.2.2.2 x 0 = some nm) : fsm G wn x = (decide (G.2.2.2.2.1 wn 0 = G.2.2.2.2.1 nm 0) && decide (G.2.2.2.2.1 wn 1 = G.2.2.2.2.1 nm 1)) := by
  unfold fsm; rw [h]; simp only [eq_comm]
set_option maxHeartbeats 4000000 in
set_option maxRecDepth 100000 in
theorem lp_Checker_findChip {p : Program} {l : Launch} {e : Env} {s : State} {m : MethodId} {args : Array Value} {below : List Frame} {meth : Method} {c : Code} {Q : State → Prop} {A : Nat → Prop} {dC : Nat → ClassId} {dI : Nat → Nat → Nat} {cB cI cL cZ cC cO : ClassId} {t0 : Nat} {L : List Nat} {G : PG} {qx qc qf na df qi : Nat} {wn : Nat} {xs : List Nat} {F : Option Nat} (hL : gL L G) (h : LSx t0 G qc xs) (hlen : xs.length < 1000) (hw : ∀ x ∈ na :: df :: xs, G.1 x = 6 ∧ ∃ nm, G.2.2.2.2.2 x 0 = some nm ∧ G.1 nm = 1) (hwn : G.1 wn = 1) (hx : p.tables.exec = Jvm.exec) (hb : c.code = b_Checker_findChip) (hml : c.maxLocals = 3) (hown : s.vm.findClass R_Checker = some m.cls) (hts : ∀ w ∈ tb, w.before args s = true) (hA : ∀ q, s.heap.size ≤ q → A q) (hF : stF A s) (hE : stE A t0 s) (hK : va_K (dC, dI) cl [(cB, .byte), (cI, .int), (cL, .long), (cZ, .boolean), (cC, .char), (cO, .object "java/lang/Object")] s)
    (kx0 : ∀  (H : Heap) (locs : List Loc) (ls : Array Slot), none = F → va_P (dC, dI) cl ([(qx, .inr (5, [.ref qc, .ref qf, .ref na, .ref df, .ref qi]))] ++ va_pl L (gE cO G)) H → va_D A ([(qx, .inr (5, [.ref qc, .ref qf, .ref na, .ref df, .ref qi]))] ++ va_pl L (gE cO G)) → va_S A s.heap H locs → lv_has ls 3 [(0, .ref qx), (1, .ref wn)] → W p l e (headSpec w_Checker_findChip { frames := 3, cells := 0, slots := 0, locals := 130 }).room s m args below meth c H locs 0 0 Q (F0 m 90 ls [])) (kx1 : ∀ (x : Nat) (H : Heap) (locs : List Loc) (ls : Array Slot), some x = F → va_P (dC, dI) cl ([(qx, .inr (5, [.ref qc, .ref qf, .ref na, .ref df, .ref qi]))] ++ va_pl L (gE cO G)) H → va_D A ([(qx, .inr (5, [.ref qc, .ref qf, .ref na, .ref df, .ref qi]))] ++ va_pl L (gE cO G)) → va_S A s.heap H locs → lv_has ls 3 [(0, .ref qx), (1, .ref wn)] → W p l e (headSpec w_Checker_findChip { frames := 3, cells := 0, slots := 0, locals := 130 }).room s m args below meth c H locs 0 0 Q (F0 m 83 ls [.ref x])) :
    ∀ (k : Nat) (i : Nat) (H : Heap) (locs : List Loc) (ls : Array Slot), xs.length < i + k → i ≤ xs.length → (xs.drop i).find? (fsm G wn) = F → va_P (dC, dI) cl ([(qx, .inr (5, [.ref qc, .ref qf, .ref na, .ref df, .ref qi]))] ++ va_pl L (gE cO G)) H → va_D A ([(qx, .inr (5, [.ref qc, .ref qf, .ref na, .ref df, .ref qi]))] ++ va_pl L (gE cO G)) → va_S A s.heap H locs → lv_has ls 3 [(2, .int (nI i)), (0, .ref qx), (1, .ref wn)] → W p l e (headSpec w_Checker_findChip { frames := 3, cells := 0, slots := 0, locals := 130 }).room s m args below meth c H locs 0 0 Q (F0 m 40 ls []) := by
  intro k
  induction k with
  | zero =>
    intro i H locs ls hk hi hr hP hD hS hl
    exfalso; omega
  | succ k ih =>
    intro i H locs ls hk hi hr hP hD hS hl
    refine lv_iload_n hx hb d_Checker_findChip_40 rfl (lv_at hl 0 rfl) ?_
    refine lv_aload_n hx hb d_Checker_findChip_41 rfl (lv_at hl 1 rfl) ?_
    refine va_get (D := (dC, dI)) (ci := 5) (v := .ref qc) (C := R_Checker) (T := F_Checker) (N := 5) hx hb hts i_Checker hown hK hP 0 rfl rfl 0 (by decide) (hts _ k_351) (fun _ h9 => h9) rfl d_Checker_findChip_42 ?_
    refine wd_i (cx := []) (wr := [(qx, .inr (5, [.ref qc, .ref qf, .ref na, .ref df, .ref qi]))]) (pl := va_pl L (gE cO G)) (va_runV (As := []) (rest := [.int (nI i)]) ⟨hx, hb, hml, hown, hts⟩ (p_List_size l dC dI cB cI cL cZ cC cO (G := G) qc t0 _ hL h.k.1) (cwV 0 hts (good_V k_687 k_325 k_326 k_7 k_327) rfl rfl rfl (by decide +kernel) ⟨Nat.le_of_ble_eq_true rfl, Nat.le_of_ble_eq_true rfl⟩) (wd_preV (ci := 4) (r := (R_List, F_List, 3)) hK hP hD hS hA hF hE [] (by decide) rfl rfl (pq_at (gL_m hL h.k.1 (by decide)) (gE_7 (G := G) h.k.1))) rfl rfl hl.1 rfl (lv_room (Nat.le_of_ble_eq_true rfl)) d_Checker_findChip_45 ⟨Nat.le_of_ble_eq_true rfl, Nat.le_of_ble_eq_true rfl⟩) hP hD hS hA [] [0] rfl rfl (by decide) (by decide) (fun r_2 _ H locs w_1 hP hD hS => ?_)
    have hP : va_P (dC, dI) cl ([(qx, .inr (5, [.ref qc, .ref qf, .ref na, .ref df, .ref qi]))] ++ va_pl L (gE cO G)) H := hP
    have hD : va_D A ([(qx, .inr (5, [.ref qc, .ref qf, .ref na, .ref df, .ref qi]))] ++ va_pl L (gE cO G)) := hD
    rw [h.k.2] at w_1
    subst w_1
    refine nv_icmp_ge (tgt := 90) hx hb (by omega) (by omega) d_Checker_findChip_48 (by decide) (fun c_3 => ?_) (fun c_3 => ?_)
    · have hq : none = F := by rw [← hr, List.drop_eq_nil_of_le (by omega)]; rfl
      exact kx0 H locs ls hq hP hD hS (lv_sub hl [1, 2] rfl)
    · refine lv_aload_n hx hb d_Checker_findChip_51 rfl (lv_at hl 1 rfl) ?_
      refine va_get (D := (dC, dI)) (ci := 5) (v := .ref qc) (C := R_Checker) (T := F_Checker) (N := 5) hx hb hts i_Checker hown hK hP 0 rfl rfl 0 (by decide) (hts _ k_351) (fun _ h9 => h9) rfl d_Checker_findChip_52 ?_
      refine lv_iload_n hx hb d_Checker_findChip_55 rfl (lv_at hl 0 rfl) ?_
      obtain ⟨x, hxi⟩ : ∃ z, xs[i]? = some z := ⟨_, List.getElem?_eq_getElem (by omega)⟩
      refine wd_q (cx := []) (wr := [(qx, .inr (5, [.ref qc, .ref qf, .ref na, .ref df, .ref qi]))]) (pl := va_pl L (gE cO G)) (va_runV (As := [.int (nI i)]) (rest := []) ⟨hx, hb, hml, hown, hts⟩ (p_List_get l dC dI cB cI cL cZ cC cO (G := G) qc (i) xs t0 _ hL h (by omega)) (cwV 1 hts (good_V k_688 k_329 k_330 k_7 k_331) rfl rfl rfl (by decide +kernel) ⟨Nat.le_of_ble_eq_true rfl, Nat.le_of_ble_eq_true rfl⟩) (wd_preV (ci := 4) (r := (R_List, F_List, 3)) hK hP hD hS hA hF hE [] (by decide) rfl rfl (pq_at (gL_m hL h.k.1 (by decide)) (gE_7 (G := G) h.k.1))) rfl rfl hl.1 rfl (lv_room (Nat.le_of_ble_eq_true rfl)) d_Checker_findChip_56 ⟨Nat.le_of_ble_eq_true rfl, Nat.le_of_ble_eq_true rfl⟩) hP hD hS hA [] [0] rfl rfl (by decide) (by decide) (fun r_5 _ H locs w_4 hP hD hS => ?_)
      have hP : va_P (dC, dI) cl ([(qx, .inr (5, [.ref qc, .ref qf, .ref na, .ref df, .ref qi]))] ++ va_pl L (gE cO G)) H := hP
      have hD : va_D A ([(qx, .inr (5, [.ref qc, .ref qf, .ref na, .ref df, .ref qi]))] ++ va_pl L (gE cO G)) := hD
      rw [hxi] at w_4
      subst w_4
      obtain ⟨kx9, nm, hnm, knm⟩ := hw x (List.mem_cons_of_mem _ (List.mem_cons_of_mem _ (List.mem_of_getElem? hxi)))
      refine pq_cast (ci := 6) (C := R_Chip) (T := F_Chip) (N := 9) hx hb hown (hts _ k_689) (hF.2.2.2.2 _ (List.mem_of_getElem? (i := 4) rfl)) hK hP (gL_m hL kx9 (by decide)) (gE_6 (G := G) kx9) rfl d_Checker_findChip_59 ?_
      refine pq_get (D := (dC, dI)) (ci := 6) (v := .ref nm) (C := R_Chip) (T := F_Chip) (N := 9) hx hb hts i_Chip hown hK hP (gL_m hL kx9 (by decide)) (gE_6 (G := G) kx9) rfl 0 (by decide) (hts _ k_166) (fun _ h9 => h9) (congrArg (fun z9 => some (va_rf z9)) hnm) d_Checker_findChip_62 ?_
      refine lv_aload_n hx hb d_Checker_findChip_65 rfl (lv_at hl 2 rfl) ?_
      refine wd_i (cx := []) (wr := [(qx, .inr (5, [.ref qc, .ref qf, .ref na, .ref df, .ref qi]))]) (pl := va_pl L (gE cO G)) (va_runV (As := [.ref wn]) (rest := []) ⟨hx, hb, hml, hown, hts⟩ (p_Name_same l dC dI cB cI cL cZ cC cO nm wn t0 _ hL knm hwn) (cwV 1 hts (good_V k_694 k_680 k_681 k_10 k_682) rfl rfl rfl (by decide +kernel) ⟨Nat.le_of_ble_eq_true rfl, Nat.le_of_ble_eq_true rfl⟩) (wd_preV (ci := 7) (r := (R_Name, F_Name, 3)) hK hP hD hS hA hF hE [] (by decide) rfl rfl (pq_at (gL_m hL knm (by decide)) (gE_1 (G := G) knm))) rfl rfl hl.1 rfl (lv_room (Nat.le_of_ble_eq_true rfl)) d_Checker_findChip_66 ⟨Nat.le_of_ble_eq_true rfl, Nat.le_of_ble_eq_true rfl⟩) hP hD hS hA [] [0] rfl rfl (by decide) (by decide) (fun r_7 _ H locs w_6 hP hD hS => ?_)
      have hP : va_P (dC, dI) cl ([(qx, .inr (5, [.ref qc, .ref qf, .ref na, .ref df, .ref qi]))] ++ va_pl L (gE cO G)) H := hP
      have hD : va_D A ([(qx, .inr (5, [.ref qc, .ref qf, .ref na, .ref df, .ref qi]))] ++ va_pl L (gE cO G)) := hD
      subst w_6
      have hfs : fsm G wn x = (decide (G.2.2.2.2.1 nm 0 = G.2.2.2.2.1 wn 0) && decide (G.2.2.2.2.1 nm 1 = G.2.2.2.2.1 wn 1)) := by unfold fsm; rw [hnm]
      refine nv_bif_eq (tgt := 84) hx hb d_Checker_findChip_69 (by decide) (fun c_8 => ?_) (fun c_8 => ?_)
      · refine lv_iinc (v := nI (i + 1)) (lv' := [(2, .int (nI (i + 1))), (0, .ref qx), (1, .ref wn)]) hx hb d_Checker_findChip_84 hl (k := 0) rfl (nI_1 _) (by decide) rfl (fun ls hl => ?_)
        refine lv_goto (tgt := 40) hx hb d_Checker_findChip_87 (by decide) ?_
        exact ih (i + 1) H locs ls (by omega) (by omega) (by rw [← hr, fnd_u hxi, if_neg (by rw [hfs, c_8]; decide)]) hP hD hS (lv_sub hl [0, 1, 2] rfl)
      · refine lv_aload_n hx hb d_Checker_findChip_72 rfl (lv_at hl 1 rfl) ?_
        refine va_get (D := (dC, dI)) (ci := 5) (v := .ref qc) (C := R_Checker) (T := F_Checker) (N := 5) hx hb hts i_Checker hown hK hP 0 rfl rfl 0 (by decide) (hts _ k_351) (fun _ h9 => h9) rfl d_Checker_findChip_73 ?_
        refine lv_iload_n hx hb d_Checker_findChip_76 rfl (lv_at hl 0 rfl) ?_
        refine wd_q (cx := []) (wr := [(qx, .inr (5, [.ref qc, .ref qf, .ref na, .ref df, .ref qi]))]) (pl := va_pl L (gE cO G)) (va_runV (As := [.int (nI i)]) (rest := []) ⟨hx, hb, hml, hown, hts⟩ (p_List_get l dC dI cB cI cL cZ cC cO (G := G) qc (i) xs t0 _ hL h (by omega)) (cwV 1 hts (good_V k_688 k_329 k_330 k_7 k_331) rfl rfl rfl (by decide +kernel) ⟨Nat.le_of_ble_eq_true rfl, Nat.le_of_ble_eq_true rfl⟩) (wd_preV (ci := 4) (r := (R_List, F_List, 3)) hK hP hD hS hA hF hE [] (by decide) rfl rfl (pq_at (gL_m hL h.k.1 (by decide)) (gE_7 (G := G) h.k.1))) rfl rfl hl.1 rfl (lv_room (Nat.le_of_ble_eq_true rfl)) d_Checker_findChip_77 ⟨Nat.le_of_ble_eq_true rfl, Nat.le_of_ble_eq_true rfl⟩) hP hD hS hA [] [0] rfl rfl (by decide) (by decide) (fun r_10 _ H locs w_9 hP hD hS => ?_)
        have hP : va_P (dC, dI) cl ([(qx, .inr (5, [.ref qc, .ref qf, .ref na, .ref df, .ref qi]))] ++ va_pl L (gE cO G)) H := hP
        have hD : va_D A ([(qx, .inr (5, [.ref qc, .ref qf, .ref na, .ref df, .ref qi]))] ++ va_pl L (gE cO G)) := hD
        rw [hxi] at w_9
        subst w_9
        refine pq_cast (ci := 6) (C := R_Chip) (T := F_Chip) (N := 9) hx hb hown (hts _ k_689) (hF.2.2.2.2 _ (List.mem_of_getElem? (i := 4) rfl)) hK hP (gL_m hL kx9 (by decide)) (gE_6 (G := G) kx9) rfl d_Checker_findChip_80 ?_
        have hq : some x = F := by rw [← hr, fnd_u hxi, if_pos (hfs.trans c_8)]
        exact kx1 x H locs ls hq hP hD hS (lv_sub hl [1, 2] rfl)
set_option maxHeartbeats 4000000 in
set_option maxRecDepth 100000 in
/-- findChip(name) -/
theorem p_Checker_findChip (l : Launch) (dC : Nat → ClassId) (dI : Nat → Nat → Nat) (cB cI cL cZ cC cO : ClassId) {L : List Nat} {G : PG} (qx qc qf na df qi : Nat) (wn : Nat) (xs : List Nat) (t0 sz : Nat) (hL : gL L G) (h : LSx t0 G qc xs) (hlen : xs.length < 1000) (hw : ∀ x ∈ na :: df :: xs, G.1 x = 6 ∧ ∃ nm, G.2.2.2.2.2 x 0 = some nm ∧ G.1 nm = 1) (hwn : G.1 wn = 1) : Met l y_Checker_findChip w_Checker_findChip ({ frames := 3, cells := 0, slots := 0, locals := 130 }) (va_Pc [.ref qx, .ref wn] (wB2 (dC, dI) cl [(cB, .byte), (cI, .int), (cL, .long), (cZ, .boolean), (cC, .char), (cO, .object "java/lang/Object")] sz t0 ([(qx, .inr (5, [.ref qc, .ref qf, .ref na, .ref df, .ref qi]))] ++ va_pl L (gE cO G)))) (va_Qq (fun (r : Option Nat) (u : Unit) => r = ((na :: df :: xs).find? (fsm G wn))) (fun _ t => wA (dC, dI) cl [(cB, .byte), (cI, .int), (cL, .long), (cZ, .boolean), (cC, .char), (cO, .object "java/lang/Object")] (va_A ([(qx, .inr (5, [.ref qc, .ref qf, .ref na, .ref df, .ref qi]))] ++ va_pl L (gE cO G)) sz) ([(qx, .inr (5, [.ref qc, .ref qf, .ref na, .ref df, .ref qi]))] ++ va_pl L (gE cO G)) t) (va_A ([(qx, .inr (5, [.ref qc, .ref qf, .ref na, .ref df, .ref qi]))] ++ va_pl L (gE cO G)) sz)) 0 0 (va_A ([(qx, .inr (5, [.ref qc, .ref qf, .ref na, .ref df, .ref qi]))] ++ va_pl L (gE cO G)) sz) := by
  refine Met.ofW (cc := b_Checker_findChip) (maxL := 3) (ret := (some (ClassFile.FieldType.object "ChipDesk$Chip"))) (by decide) rfl ?_
  intro p e s m args below meth c s₁ B hml hv
  obtain ⟨rfl, ⟨hsz, hP, hK, hD0, hF⟩, hE⟩ := hv
  have hx := B.exec
  have hb := B.bytes
  have hr := B.returns
  have hts := atoms_spec (ws := w_Checker_findChip) B.pre
  have hts : ∀ w ∈ tb, w.before _ s = true := fun w h => hts w (List.mem_cons_of_mem _ h)
  have hown : s.vm.findClass R_Checker = some m.cls := findClass_of_methodNamed B.named
  have hlocks := B.notSynchronized
  subst hsz
  have hD := hD0.self (sz := s.heap.size)
  generalize hAe : va_A ([(qx, .inr (5, [.ref qc, .ref qf, .ref na, .ref df, .ref qi]))] ++ va_pl L (gE cO G)) s.heap.size = A at hD hF hE ⊢
  have hA : ∀ q : Nat, s.heap.size ≤ q → A q := fun q h => by rw [← hAe]; exact Or.inr h
  have hS : va_S A s.heap s.heap [] := va_S.rf
  have hP : va_P (dC, dI) cl ([(qx, .inr (5, [.ref qc, .ref qf, .ref na, .ref df, .ref qi]))] ++ va_pl L (gE cO G)) s.heap := hP
  have hl := lv_entry ([.ref qx, .ref wn]) (n := 3) (Nat.le_of_ble_eq_true rfl)
  rw [lg_entry_eq]
  generalize (lg_sl ([.ref qx, .ref wn]) ++ List.replicate (3 - (lg_sl ([.ref qx, .ref wn])).length) Slot.unset).toArray = ls at hl ⊢
  have hl : lv_has ls 3 [(0, .ref qx), (1, .ref wn)] := hl
  obtain ⟨kna, nn_, hnn, knn⟩ := hw na (List.mem_cons_self)
  obtain ⟨kdf, dn_, hdn, kdn⟩ := hw df (List.mem_cons_of_mem _ (List.mem_cons_self))
  refine lv_aload_n hx hb d_Checker_findChip_0 rfl (lv_at hl 1 rfl) ?_
  refine lv_aload_n hx hb d_Checker_findChip_1 rfl (lv_at hl 0 rfl) ?_
  refine va_get (D := (dC, dI)) (ci := 5) (v := .ref na) (C := R_Checker) (T := F_Checker) (N := 5) hx hb hts i_Checker hown hK hP 0 rfl rfl 2 (by decide) (hts _ k_353) (fun _ h9 => h9) rfl d_Checker_findChip_2 ?_
  refine pq_get (D := (dC, dI)) (ci := 6) (v := .ref nn_) (C := R_Chip) (T := F_Chip) (N := 9) hx hb hts i_Chip hown hK hP (gL_m hL kna (by decide)) (gE_6 (G := G) kna) rfl 0 (by decide) (hts _ k_166) (fun _ h9 => h9) (congrArg (fun z9 => some (va_rf z9)) hnn) d_Checker_findChip_5 ?_
  refine wd_i (cx := []) (wr := [(qx, .inr (5, [.ref qc, .ref qf, .ref na, .ref df, .ref qi]))]) (pl := va_pl L (gE cO G)) (va_runV (As := [.ref nn_]) (rest := []) ⟨hx, hb, hml, hown, hts⟩ (p_Name_same l dC dI cB cI cL cZ cC cO wn nn_ t0 _ hL hwn knn) (cwV 1 hts (good_V k_694 k_680 k_681 k_10 k_682) rfl rfl rfl (by decide +kernel) ⟨Nat.le_of_ble_eq_true rfl, Nat.le_of_ble_eq_true rfl⟩) (wd_preV (ci := 7) (r := (R_Name, F_Name, 3)) hK hP hD hS hA hF hE [] (by decide) rfl rfl (pq_at (gL_m hL hwn (by decide)) (gE_1 (G := G) hwn))) rfl rfl hl.1 rfl (lv_room (Nat.le_of_ble_eq_true rfl)) d_Checker_findChip_8 ⟨Nat.le_of_ble_eq_true rfl, Nat.le_of_ble_eq_true rfl⟩) hP hD hS hA [] [0] rfl rfl (by decide) (by decide) (fun r_2 _ H locs w_1 hP hD hS => ?_)
  have hP : va_P (dC, dI) cl ([(qx, .inr (5, [.ref qc, .ref qf, .ref na, .ref df, .ref qi]))] ++ va_pl L (gE cO G)) H := hP
  have hD : va_D A ([(qx, .inr (5, [.ref qc, .ref qf, .ref na, .ref df, .ref qi]))] ++ va_pl L (gE cO G)) := hD
  subst w_1
  refine nv_bif_eq (tgt := 19) hx hb d_Checker_findChip_11 (by decide) (fun c_3 => ?_) (fun c_3 => ?_)
  · refine lv_aload_n hx hb d_Checker_findChip_19 rfl (lv_at hl 1 rfl) ?_
    refine lv_aload_n hx hb d_Checker_findChip_20 rfl (lv_at hl 0 rfl) ?_
    refine va_get (D := (dC, dI)) (ci := 5) (v := .ref df) (C := R_Checker) (T := F_Checker) (N := 5) hx hb hts i_Checker hown hK hP 0 rfl rfl 3 (by decide) (hts _ k_354) (fun _ h9 => h9) rfl d_Checker_findChip_21 ?_
    refine pq_get (D := (dC, dI)) (ci := 6) (v := .ref dn_) (C := R_Chip) (T := F_Chip) (N := 9) hx hb hts i_Chip hown hK hP (gL_m hL kdf (by decide)) (gE_6 (G := G) kdf) rfl 0 (by decide) (hts _ k_166) (fun _ h9 => h9) (congrArg (fun z9 => some (va_rf z9)) hdn) d_Checker_findChip_24 ?_
    refine wd_i (cx := []) (wr := [(qx, .inr (5, [.ref qc, .ref qf, .ref na, .ref df, .ref qi]))]) (pl := va_pl L (gE cO G)) (va_runV (As := [.ref dn_]) (rest := []) ⟨hx, hb, hml, hown, hts⟩ (p_Name_same l dC dI cB cI cL cZ cC cO wn dn_ t0 _ hL hwn kdn) (cwV 1 hts (good_V k_694 k_680 k_681 k_10 k_682) rfl rfl rfl (by decide +kernel) ⟨Nat.le_of_ble_eq_true rfl, Nat.le_of_ble_eq_true rfl⟩) (wd_preV (ci := 7) (r := (R_Name, F_Name, 3)) hK hP hD hS hA hF hE [] (by decide) rfl rfl (pq_at (gL_m hL hwn (by decide)) (gE_1 (G := G) hwn))) rfl rfl hl.1 rfl (lv_room (Nat.le_of_ble_eq_true rfl)) d_Checker_findChip_27 ⟨Nat.le_of_ble_eq_true rfl, Nat.le_of_ble_eq_true rfl⟩) hP hD hS hA [] [0] rfl rfl (by decide) (by decide) (fun r_5 _ H locs w_4 hP hD hS => ?_)
    have hP : va_P (dC, dI) cl ([(qx, .inr (5, [.ref qc, .ref qf, .ref na, .ref df, .ref qi]))] ++ va_pl L (gE cO G)) H := hP
    have hD : va_D A ([(qx, .inr (5, [.ref qc, .ref qf, .ref na, .ref df, .ref qi]))] ++ va_pl L (gE cO G)) := hD
    subst w_4
    refine nv_bif_eq (tgt := 38) hx hb d_Checker_findChip_30 (by decide) (fun c_6 => ?_) (fun c_6 => ?_)
    · refine lv_iconst (v := nI 0) hx hb d_Checker_findChip_38 (by decide) ?_
      refine lv_istore_n (lv' := [(2, .int (nI 0)), (0, .ref qx), (1, .ref wn)]) hx hb d_Checker_findChip_39 rfl hl (by decide) rfl (fun ls hl => ?_)
      have hc1 := c_3
      have hc2 := c_6
      refine lp_Checker_findChip (F := xs.find? (fsm G wn)) hL h hlen hw hwn hx hb hml hown hts hA hF hE hK (fun H locs ls hq hP hD hS hl => ?_) (fun x H locs ls hq hP hD hS hl => ?_) (xs.length + 1) 0 _ _ ls (by omega) (by omega) rfl hP hD hS (lv_sub hl [0, 1, 2] rfl)
      · refine lv_null hx hb d_Checker_findChip_90 ?_
        exact wr_q (r := none) hx hb hr ⟨_, rfl⟩ hlocks () (by rw [List.find?_cons_of_neg (by rw [fsm_sy hnn, hc1]; decide), List.find?_cons_of_neg (by rw [fsm_sy hdn, hc2]; decide)]; exact hq) hK hP hD hS d_Checker_findChip_91
      · exact wr_q (r := some x) hx hb hr ⟨_, rfl⟩ hlocks () (by rw [List.find?_cons_of_neg (by rw [fsm_sy hnn, hc1]; decide), List.find?_cons_of_neg (by rw [fsm_sy hdn, hc2]; decide)]; exact hq) hK hP hD hS d_Checker_findChip_83
    · refine lv_aload_n hx hb d_Checker_findChip_33 rfl (lv_at hl 0 rfl) ?_
      refine va_get (D := (dC, dI)) (ci := 5) (v := .ref df) (C := R_Checker) (T := F_Checker) (N := 5) hx hb hts i_Checker hown hK hP 0 rfl rfl 3 (by decide) (hts _ k_354) (fun _ h9 => h9) rfl d_Checker_findChip_34 ?_
      exact wr_q (r := some df) hx hb hr ⟨_, rfl⟩ hlocks () (by rw [List.find?_cons_of_neg (by rw [fsm_sy hnn, c_3]; decide), List.find?_cons_of_pos ((fsm_sy hdn).trans c_6)]) hK hP hD hS d_Checker_findChip_37
  · refine lv_aload_n hx hb d_Checker_findChip_14 rfl (lv_at hl 0 rfl) ?_
    refine va_get (D := (dC, dI)) (ci := 5) (v := .ref na) (C := R_Checker) (T := F_Checker) (N := 5) hx hb hts i_Checker hown hK hP 0 rfl rfl 2 (by decide) (hts _ k_353) (fun _ h9 => h9) rfl d_Checker_findChip_15 ?_
    exact wr_q (r := some na) hx hb hr ⟨_, rfl⟩ hlocks () (by rw [List.find?_cons_of_pos ((fsm_sy hnn).trans c_3)]) hK hP hD hS d_Checker_findChip_18
