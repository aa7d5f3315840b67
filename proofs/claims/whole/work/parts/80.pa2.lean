/-- a new wire: its name, its kind; one bit wide, at no place, not linked, not given -/
def wir (G : PG) (a nm k : Nat) : PG := gN (gR (gB (gN (gN (gO (gN G a 2 1) a 3 none) a 4 0) a 5 0) a 6 false) a 0 (some nm)) a 1 k
def isW (G : PG) (q nm k : Nat) : Prop := G.1 q = 2 ∧ G.2.2.2.2.2 q 0 = some nm ∧ G.2.1 q 1 = k ∧ G.2.1 q 2 = 1 ∧ G.2.2.1 q 3 = none ∧ G.2.1 q 4 = 0 ∧ G.2.1 q 5 = 0 ∧ G.2.2.2.1 q 6 = false
theorem isW.keep {G G' : PG} {q nm k : Nat} (h : isW G q nm k) (hg : gs G G' q) : isW G' q nm k := by
  obtain ⟨g1, g2, g3, g4, g5, g6⟩ := hg
  unfold isW at h ⊢
  rw [g1, g2, g3, g4, g6]; exact h
theorem wir_gs {G : PG} {a nm k b : Nat} (h : b ≠ a) : gs G (wir G a nm k) b := ((((((gs_N h).tr (gs_O h)).tr (gs_N h)).tr (gs_N h)).tr (gs_B h)).tr (gs_R h)).tr (gs_N h)
theorem isW_new {G : PG} {L : List Nat} {q nm k : Nat} (hL : gL L G) : isW (wir (g0 G q 2) q nm k) q nm k ∧ gL (L ++ [q]) (wir (g0 G q 2) q nm k) ∧ ∀ b, b ≠ q → gs G (wir (g0 G q 2) q nm k) b := by
  refine ⟨⟨va_up_self _ _ _, ?_, ?_, ?_, ?_, ?_, ?_, ?_⟩, gL_new hL, fun b hb => (gs_0 hb).tr (wir_gs hb)⟩ <;> simp [wir, up2]
theorem LSx_fr {t0 : Nat} {G G' : PG} {l q : Nat} {xs : List Nat} (h : LSx t0 G l xs) (hq : G.1 q = 0) (hb : ∀ b, b ≠ q → gs G G' b) : LSx t0 G' l xs := by
  have hx : ∀ x ∈ xs, 0 < G.1 x := by
    rcases h with ⟨_, _, _, h4⟩ | ⟨d, n, h⟩
    · intro x hx; rw [h4] at hx; exact absurd hx List.not_mem_nil
    · exact fun x hx => (h.2.2.2.2.2.2.2.2 x hx).1
  refine LSx_of h (fun b hb2 => hb b (fun e => ?_)) (fun x hx2 => (hb x (fun e => ?_)).1)
  · rcases hb2 with r | r
    · have := h.k.1; rw [← r, e, hq] at this; cases this
    · have := r.1; rw [e, hq] at this; omega
  · have := hx x hx2; rw [e, hq] at this; omega
theorem d_Parser_findOrAddInner_0 : decode b_Parser_findOrAddInner 0 = .ok (.aload_n 0, 1) := by decide +kernel
theorem d_Parser_findOrAddInner_1 : decode b_Parser_findOrAddInner 1 = .ok (.getfield 82, 3) := by decide +kernel
theorem d_Parser_findOrAddInner_4 : decode b_Parser_findOrAddInner 4 = .ok (.aload_n 1, 1) := by decide +kernel
theorem d_Parser_findOrAddInner_5 : decode b_Parser_findOrAddInner 5 = .ok (.invokestatic 154, 3) := by decide +kernel
theorem d_Parser_findOrAddInner_8 : decode b_Parser_findOrAddInner 8 = .ok (.astore_n 2, 1) := by decide +kernel
theorem d_Parser_findOrAddInner_9 : decode b_Parser_findOrAddInner 9 = .ok (.aload_n 2, 1) := by decide +kernel
theorem d_Parser_findOrAddInner_10 : decode b_Parser_findOrAddInner 10 = .ok (.ifnonnull 12, 3) := by decide +kernel
theorem d_Parser_findOrAddInner_13 : decode b_Parser_findOrAddInner 13 = .ok (.aload_n 0, 1) := by decide +kernel
theorem d_Parser_findOrAddInner_14 : decode b_Parser_findOrAddInner 14 = .ok (.getfield 158, 3) := by decide +kernel
theorem d_Parser_findOrAddInner_17 : decode b_Parser_findOrAddInner 17 = .ok (.aload_n 1, 1) := by decide +kernel
theorem d_Parser_findOrAddInner_18 : decode b_Parser_findOrAddInner 18 = .ok (.invokestatic 154, 3) := by decide +kernel
theorem d_Parser_findOrAddInner_21 : decode b_Parser_findOrAddInner 21 = .ok (.astore_n 2, 1) := by decide +kernel
theorem d_Parser_findOrAddInner_22 : decode b_Parser_findOrAddInner 22 = .ok (.aload_n 2, 1) := by decide +kernel
theorem d_Parser_findOrAddInner_23 : decode b_Parser_findOrAddInner 23 = .ok (.ifnonnull 34, 3) := by decide +kernel
theorem d_Parser_findOrAddInner_26 : decode b_Parser_findOrAddInner 26 = .ok (.aload_n 0, 1) := by decide +kernel
theorem d_Parser_findOrAddInner_27 : decode b_Parser_findOrAddInner 27 = .ok (.getfield 158, 3) := by decide +kernel
theorem d_Parser_findOrAddInner_30 : decode b_Parser_findOrAddInner 30 = .ok (.invokevirtual 54, 3) := by decide +kernel
theorem d_Parser_findOrAddInner_33 : decode b_Parser_findOrAddInner 33 = .ok (.bipush 30, 2) := by decide +kernel
theorem d_Parser_findOrAddInner_35 : decode b_Parser_findOrAddInner 35 = .ok (.if_icmp .ge 22, 3) := by decide +kernel
theorem d_Parser_findOrAddInner_38 : decode b_Parser_findOrAddInner 38 = .ok (.new 37, 3) := by decide +kernel
theorem d_Parser_findOrAddInner_41 : decode b_Parser_findOrAddInner 41 = .ok (.dup, 1) := by decide +kernel
theorem d_Parser_findOrAddInner_42 : decode b_Parser_findOrAddInner 42 = .ok (.aload_n 1, 1) := by decide +kernel
theorem d_Parser_findOrAddInner_43 : decode b_Parser_findOrAddInner 43 = .ok (.iconst 2, 1) := by decide +kernel
theorem d_Parser_findOrAddInner_44 : decode b_Parser_findOrAddInner 44 = .ok (.invokespecial 85, 3) := by decide +kernel
theorem d_Parser_findOrAddInner_47 : decode b_Parser_findOrAddInner 47 = .ok (.astore_n 2, 1) := by decide +kernel
theorem d_Parser_findOrAddInner_48 : decode b_Parser_findOrAddInner 48 = .ok (.aload_n 0, 1) := by decide +kernel
theorem d_Parser_findOrAddInner_49 : decode b_Parser_findOrAddInner 49 = .ok (.getfield 158, 3) := by decide +kernel
theorem d_Parser_findOrAddInner_52 : decode b_Parser_findOrAddInner 52 = .ok (.aload_n 2, 1) := by decide +kernel
theorem d_Parser_findOrAddInner_53 : decode b_Parser_findOrAddInner 53 = .ok (.invokevirtual 71, 3) := by decide +kernel
theorem d_Parser_findOrAddInner_56 : decode b_Parser_findOrAddInner 56 = .ok (.pop, 1) := by decide +kernel
theorem d_Parser_findOrAddInner_57 : decode b_Parser_findOrAddInner 57 = .ok (.aload_n 2, 1) := by decide +kernel
theorem d_Parser_findOrAddInner_58 : decode b_Parser_findOrAddInner 58 = .ok (.areturn, 1) := by decide +kernel
set_option maxHeartbeats 4000000 in
set_option maxRecDepth 100000 in
/-- findOrAddInner(chip, name) -/
theorem p_Parser_findOrAddInner (l : Launch) (dC : Nat → ClassId) (dI : Nat → Nat → Nat) (cB cI cL cZ cC cO : ClassId) {L : List Nat} {G : PG} (a wn lp li : Nat) (xs ys : List Nat) (t0 sz : Nat) (hL : gL L G) (ha : G.1 a = 6) (hp : G.2.2.2.2.2 a 3 = some lp) (hi : G.2.2.2.2.2 a 4 = some li) (h : LSx t0 G lp xs) (h2 : LSx t0 G li ys) (hlen : xs.length < 1000) (hlen2 : ys.length < 400) (hw : (∀ x ∈ xs, G.1 x = 2 ∧ ∃ nm, G.2.2.2.2.2 x 0 = some nm ∧ G.1 nm = 1)) (hw2 : (∀ x ∈ ys, G.1 x = 2 ∧ ∃ nm, G.2.2.2.2.2 x 0 = some nm ∧ G.1 nm = 1)) (hwn : G.1 wn = 1) : Met l y_Parser_findOrAddInner w_Parser_findOrAddInner ({ frames := 8, cells := 2, slots := 607, locals := 500 }) (va_Pc [.ref a, .ref wn] (wB2 (dC, dI) cl [(cB, .byte), (cI, .int), (cL, .long), (cZ, .boolean), (cC, .char), (cO, .object "java/lang/Object")] sz t0 ([] ++ va_pl L (gE cO G)))) (va_Qq (fun (r : Option Nat) (u : List Nat × PG) => (∃ x, ((xs.find? (fsm G wn)) = some x ∨ ((xs.find? (fsm G wn)) = none ∧ (ys.find? (fsm G wn)) = some x)) ∧ r = some x ∧ u = (L, G)) ∨ ((xs.find? (fsm G wn)) = none ∧ (ys.find? (fsm G wn)) = none ∧ 30 ≤ ys.length ∧ r = none ∧ u = (L, G)) ∨ ((xs.find? (fsm G wn)) = none ∧ (ys.find? (fsm G wn)) = none ∧ ys.length < 30 ∧ ∃ q, r = some q ∧ q ∉ L ∧ isW u.2 q wn 2 ∧ LSx t0 u.2 li (ys ++ [q]) ∧ gL u.1 u.2 ∧ LF G u.2 li)) (fun u t => wA (dC, dI) cl [(cB, .byte), (cI, .int), (cL, .long), (cZ, .boolean), (cC, .char), (cO, .object "java/lang/Object")] (va_A ([] ++ va_pl L (gE cO G)) sz) ([] ++ va_pl u.1 (gE cO u.2)) t) (va_A ([] ++ va_pl L (gE cO G)) sz)) 2 607 (va_A ([] ++ va_pl L (gE cO G)) sz) := by
  refine Met.ofW (cc := b_Parser_findOrAddInner) (maxL := 3) (ret := (some (ClassFile.FieldType.object "ChipDesk$Wire"))) (by decide) rfl ?_
  intro p e s m args below meth c s₁ B hml hv
  obtain ⟨rfl, ⟨hsz, hP, hK, hD0, hF⟩, hE⟩ := hv
  have hx := B.exec
  have hb := B.bytes
  have hr := B.returns
  have hts := atoms_spec (ws := w_Parser_findOrAddInner) B.pre
  have hts : ∀ w ∈ tb, w.before _ s = true := fun w h => hts w (List.mem_cons_of_mem _ h)
  have hown : s.vm.findClass R_Parser = some m.cls := findClass_of_methodNamed B.named
  have hlocks := B.notSynchronized
  subst hsz
  have hD := hD0.self (sz := s.heap.size)
  generalize hAe : va_A ([] ++ va_pl L (gE cO G)) s.heap.size = A at hD hF hE ⊢
  have hA : ∀ q : Nat, s.heap.size ≤ q → A q := fun q h => by rw [← hAe]; exact Or.inr h
  have hS : va_S A s.heap s.heap [] := va_S.rf
  have hP : va_P (dC, dI) cl ([] ++ va_pl L (gE cO G)) s.heap := hP
  have hl := lv_entry ([.ref a, .ref wn]) (n := 3) (Nat.le_of_ble_eq_true rfl)
  rw [lg_entry_eq]
  generalize (lg_sl ([.ref a, .ref wn]) ++ List.replicate (3 - (lg_sl ([.ref a, .ref wn])).length) Slot.unset).toArray = ls at hl ⊢
  have hl : lv_has ls 3 [(0, .ref a), (1, .ref wn)] := hl
  refine lv_aload_n hx hb d_Parser_findOrAddInner_0 rfl (lv_at hl 0 rfl) ?_
  refine pq_get (D := (dC, dI)) (ci := 6) (v := .ref lp) (C := R_Chip) (T := F_Chip) (N := 9) hx hb hts i_Chip hown hK hP (gL_m hL ha (by decide)) (gE_6 (G := G) ha) rfl 3 (by decide) (hts _ k_174) (fun _ h9 => h9) (congrArg (fun z9 => some (va_rf z9)) hp) d_Parser_findOrAddInner_1 ?_
  refine lv_aload_n hx hb d_Parser_findOrAddInner_4 rfl (lv_at hl 1 rfl) ?_
  refine wd_q (cx := []) (wr := []) (pl := va_pl L (gE cO G)) (va_runS (As := [.ref lp, .ref wn]) (rest := []) ⟨hx, hb, hml, hown, hts⟩ (p_Chip_find l dC dI cB cI cL cZ cC cO lp wn xs t0 _ hL h hlen hw hwn) (va_cwS 2 hts (good_S k_676 k_677 k_9 k_678) rfl rfl rfl (by decide +kernel) ⟨Nat.le_of_ble_eq_true rfl, Nat.le_of_ble_eq_true rfl⟩) (wd_preS hK hP hD hS hA hF hE [] (by decide) rfl) rfl rfl hl.1 rfl (lv_room (Nat.le_of_ble_eq_true rfl)) d_Parser_findOrAddInner_5 ⟨Nat.le_of_ble_eq_true rfl, Nat.le_of_ble_eq_true rfl⟩) hP hD hS hA [] [] rfl rfl (by decide) (by decide) (fun r_2 _ H locs w_1 hP hD hS => ?_)
  have hP : va_P (dC, dI) cl ([] ++ va_pl L (gE cO G)) H := hP
  have hD : va_D A ([] ++ va_pl L (gE cO G)) := hD
  subst w_1
  rcases hf1 : xs.find? (fsm G wn) with _ | x1
  · refine lv_astore_nN (lv' := [(2, .null), (0, .ref a), (1, .ref wn)]) hx hb d_Parser_findOrAddInner_8 rfl hl (by decide) rfl (fun ls hl => ?_)
    refine lv_aload_nN hx hb d_Parser_findOrAddInner_9 rfl (lv_at hl 0 rfl) ?_
    refine lv_ifnonnullN hx hb d_Parser_findOrAddInner_10 ?_
    refine lv_aload_n hx hb d_Parser_findOrAddInner_13 rfl (lv_at hl 1 rfl) ?_
    refine pq_get (D := (dC, dI)) (ci := 6) (v := .ref li) (C := R_Chip) (T := F_Chip) (N := 9) hx hb hts i_Chip hown hK hP (gL_m hL ha (by decide)) (gE_6 (G := G) ha) rfl 4 (by decide) (hts _ k_177) (fun _ h9 => h9) (congrArg (fun z9 => some (va_rf z9)) hi) d_Parser_findOrAddInner_14 ?_
    refine lv_aload_n hx hb d_Parser_findOrAddInner_17 rfl (lv_at hl 2 rfl) ?_
    refine wd_q (cx := []) (wr := []) (pl := va_pl L (gE cO G)) (va_runS (As := [.ref li, .ref wn]) (rest := []) ⟨hx, hb, hml, hown, hts⟩ (p_Chip_find l dC dI cB cI cL cZ cC cO li wn ys t0 _ hL h2 (by omega) hw2 hwn) (va_cwS 2 hts (good_S k_676 k_677 k_9 k_678) rfl rfl rfl (by decide +kernel) ⟨Nat.le_of_ble_eq_true rfl, Nat.le_of_ble_eq_true rfl⟩) (wd_preS hK hP hD hS hA hF hE [] (by decide) rfl) rfl rfl hl.1 rfl (lv_room (Nat.le_of_ble_eq_true rfl)) d_Parser_findOrAddInner_18 ⟨Nat.le_of_ble_eq_true rfl, Nat.le_of_ble_eq_true rfl⟩) hP hD hS hA [] [] rfl rfl (by decide) (by decide) (fun r_4 _ H locs w_3 hP hD hS => ?_)
    have hP : va_P (dC, dI) cl ([] ++ va_pl L (gE cO G)) H := hP
    have hD : va_D A ([] ++ va_pl L (gE cO G)) := hD
    subst w_3
    rcases hf2 : ys.find? (fsm G wn) with _ | x2
    · refine lv_astore_nN (lv' := [(2, .null), (0, .ref a), (1, .ref wn)]) hx hb d_Parser_findOrAddInner_21 rfl hl (by decide) rfl (fun ls hl => ?_)
      refine lv_aload_nN hx hb d_Parser_findOrAddInner_22 rfl (lv_at hl 0 rfl) ?_
      refine lv_ifnonnullN hx hb d_Parser_findOrAddInner_23 ?_
      refine lv_aload_n hx hb d_Parser_findOrAddInner_26 rfl (lv_at hl 1 rfl) ?_
      refine pq_get (D := (dC, dI)) (ci := 6) (v := .ref li) (C := R_Chip) (T := F_Chip) (N := 9) hx hb hts i_Chip hown hK hP (gL_m hL ha (by decide)) (gE_6 (G := G) ha) rfl 4 (by decide) (hts _ k_177) (fun _ h9 => h9) (congrArg (fun z9 => some (va_rf z9)) hi) d_Parser_findOrAddInner_27 ?_
      refine wd_i (cx := []) (wr := []) (pl := va_pl L (gE cO G)) (va_runV (As := []) (rest := []) ⟨hx, hb, hml, hown, hts⟩ (p_List_size l dC dI cB cI cL cZ cC cO (G := G) li t0 _ hL h2.k.1) (cwV 0 hts (good_V k_537 k_325 k_326 k_7 k_327) rfl rfl rfl (by decide +kernel) ⟨Nat.le_of_ble_eq_true rfl, Nat.le_of_ble_eq_true rfl⟩) (wd_preV (ci := 4) (r := (R_List, F_List, 3)) hK hP hD hS hA hF hE [] (by decide) rfl rfl (pq_at (gL_m hL h2.k.1 (by decide)) (gE_7 (G := G) h2.k.1))) rfl rfl hl.1 rfl (lv_room (Nat.le_of_ble_eq_true rfl)) d_Parser_findOrAddInner_30 ⟨Nat.le_of_ble_eq_true rfl, Nat.le_of_ble_eq_true rfl⟩) hP hD hS hA [] [] rfl rfl (by decide) (by decide) (fun r_6 _ H locs w_5 hP hD hS => ?_)
      have hP : va_P (dC, dI) cl ([] ++ va_pl L (gE cO G)) H := hP
      have hD : va_D A ([] ++ va_pl L (gE cO G)) := hD
      rw [h2.k.2] at w_5
      subst w_5
      refine lv_bipush (v := nI 30) hx hb d_Parser_findOrAddInner_33 (by decide) ?_
      refine nv_icmp_ge (tgt := 57) hx hb (by omega) (by omega) d_Parser_findOrAddInner_35 (by decide) (fun c_7 => ?_) (fun c_7 => ?_)
      · refine lv_aload_nN hx hb d_Parser_findOrAddInner_57 rfl (lv_at hl 0 rfl) ?_
        refine W.widen (k := 2) (n := 607) (by omega) (by omega) ?_
        exact wr_q (r := none) hx hb hr ⟨_, rfl⟩ hlocks (L, G) (Or.inr (Or.inl ⟨rfl, rfl, by omega, rfl, rfl⟩)) hK hP hD hS d_Parser_findOrAddInner_58
      · refine pq_new (ci := 8) (fs := [.null, .int (nI 0), .int (nI 0), .int (nI 0), .int (nI 0), .int (nI 0), .int (nI 0)]) (C := R_Wire) (T := F_Wire) (N := 7) (fn := fun q9 => gE cO (g0 G q9 2)) hx hb hts i_Wire t_Wire t_Wire_ok hown (hts _ k_560) (hts _ k_208) (hts _ k_11) hK hP hD hS hA rfl (fun j hj => by rcases (show j = 0 ∨ j = 1 ∨ j = 2 ∨ j = 3 ∨ j = 4 ∨ j = 5 ∨ j = 6 by omega) with rfl | rfl | rfl | rfl | rfl | rfl | rfl <;> rfl) (Nat.le_of_ble_eq_true rfl) (Nat.le_of_ble_eq_true rfl) (fun q9 => nE_2 (G := G) q9) d_Parser_findOrAddInner_38 (fun q_8 H nq_8 hP hD hS => ?_)
        have kf_9 : (g0 G q_8 2).1 a = 6 := (g0_k hL ha (by decide) nq_8)
        have ne_10 : a ≠ q_8 := g0_ne hL ha (by decide) nq_8
        have kf_11 : (g0 G q_8 2).1 wn = 1 := (g0_k hL hwn (by decide) nq_8)
        have ne_12 : wn ≠ q_8 := g0_ne hL hwn (by decide) nq_8
        have kf_13 : (g0 G q_8 2).1 lp = 7 := (g0_k hL h.k.1 (by decide) nq_8)
        have ne_14 : lp ≠ q_8 := g0_ne hL h.k.1 (by decide) nq_8
        have kf_15 : (g0 G q_8 2).1 li = 7 := (g0_k hL h2.k.1 (by decide) nq_8)
        have ne_16 : li ≠ q_8 := g0_ne hL h2.k.1 (by decide) nq_8
        have fa_17 : (g0 G q_8 2).2.2.2.2.2 a 3 = some lp := (congrFun ((gs_0 ne_10).2.2.2.2.2) 3).trans hp
        have fa_18 : (g0 G q_8 2).2.2.2.2.2 a 4 = some li := (congrFun ((gs_0 ne_10).2.2.2.2.2) 4).trans hi
        have hL0 := hL
        have hz9 : G.1 q_8 = 0 := g0_n hL nq_8
        replace hL := gL_new (a := q_8) (n := 2) hL
        have hP : va_P (dC, dI) cl ([] ++ va_pl (L ++ [q_8]) (gE cO (g0 G q_8 2))) H := hP
        have hD : va_D A ([] ++ va_pl (L ++ [q_8]) (gE cO (g0 G q_8 2))) := hD
        refine lv_dup hx hb d_Parser_findOrAddInner_41 rfl ?_
        refine lv_aload_n hx hb d_Parser_findOrAddInner_42 rfl (lv_at hl 2 rfl) ?_
        refine lv_iconst (v := nI 2) hx hb d_Parser_findOrAddInner_43 (by decide) ?_
        refine wd_v (cx := []) (wr := []) (pl := va_pl (L ++ [q_8]) (gE cO (g0 G q_8 2))) (va_runI (As := [.ref wn, .int (nI 2)]) (rest := [.ref q_8]) ⟨hx, hb, hml, hown, hts⟩ (p_Wire_init l dC dI cB cI cL cZ cC cO (G := g0 G q_8 2) q_8 wn 2 t0 _ hL (g0_q G q_8 2)) (cwI 2 hts (good_c k_212) rfl rfl rfl (hts _ k_11) (hts _ k_561) (hts _ k_211) rfl (by decide +kernel) ⟨Nat.le_of_ble_eq_true rfl, Nat.le_of_ble_eq_true rfl⟩) (wd_preS hK hP hD hS hA hF hE [] (by decide) rfl) rfl rfl hl.1 rfl (lv_room (Nat.le_of_ble_eq_true rfl)) d_Parser_findOrAddInner_44 ⟨Nat.le_of_ble_eq_true rfl, Nat.le_of_ble_eq_true rfl⟩) hP hD hS hA [] [] rfl rfl (by decide) (by decide) (fun _ H locs w_19 hP hD hS => ?_)
        have hP : va_P (dC, dI) cl ([] ++ va_pl (L ++ [q_8]) (gE cO (wir (g0 G q_8 2) q_8 wn 2))) H := hP
        have hD : va_D A ([] ++ va_pl (L ++ [q_8]) (gE cO (wir (g0 G q_8 2) q_8 wn 2))) := hD
        obtain ⟨z1, z2, z3⟩ := isW_new (q := q_8) (nm := wn) (k := 2) hL0
        have hq0 : G.1 q_8 = 0 := g0_n hL0 nq_8
        generalize hG1 : wir (g0 G q_8 2) q_8 wn 2 = G1 at hP hD z1 z2 z3
        have l1 := LSx_fr h2 hq0 z3
        have hL := z2
        have ka := (z3 a (fun e9 => by rw [e9, hq0] at ha; cases ha)).1.trans ha
        have hi9 : G1.2.2.2.2.2 a 4 = some li := by rw [(z3 a (fun e9 => by rw [e9, hq0] at ha; cases ha)).2.2.2.2.2]; exact hi
        refine lv_astore_n (lv' := [(2, .ref q_8), (0, .ref a), (1, .ref wn)]) hx hb d_Parser_findOrAddInner_47 rfl hl (by decide) rfl (fun ls hl => ?_)
        refine lv_aload_n hx hb d_Parser_findOrAddInner_48 rfl (lv_at hl 1 rfl) ?_
        refine pq_get (D := (dC, dI)) (ci := 6) (v := .ref li) (C := R_Chip) (T := F_Chip) (N := 9) hx hb hts i_Chip hown hK hP (gL_m hL ka (by decide)) (gE_6 (G := G1) ka) rfl 4 (by decide) (hts _ k_177) (fun _ h9 => h9) (congrArg (fun z9 => some (va_rf z9)) hi9) d_Parser_findOrAddInner_49 ?_
        refine lv_aload_n hx hb d_Parser_findOrAddInner_52 rfl (lv_at hl 0 rfl) ?_
        refine wd_i (cx := []) (wr := []) (pl := va_pl (L ++ [q_8]) (gE cO G1)) (va_runV (As := [.ref q_8]) (rest := []) ⟨hx, hb, hml, hown, hts⟩ (p_List_add l dC dI cB cI cL cZ cC cO (G := G1) li q_8 ys t0 _ hL l1 (by rw [z1.1]; decide) (by omega)) (cwV 1 hts (good_V k_551 k_255 k_256 k_7 k_257) rfl rfl rfl (by decide +kernel) ⟨Nat.le_of_ble_eq_true rfl, Nat.le_of_ble_eq_true rfl⟩) (wd_preV (ci := 4) (r := (R_List, F_List, 3)) hK hP hD hS hA hF hE [] (by decide) rfl rfl (pq_at (gL_m hL l1.k.1 (by decide)) (gE_7 (G := G1) l1.k.1))) rfl rfl hl.1 rfl (lv_room (Nat.le_of_ble_eq_true rfl)) d_Parser_findOrAddInner_53 ⟨Nat.le_of_ble_eq_true rfl, Nat.le_of_ble_eq_true rfl⟩) hP hD hS hA [] [] rfl rfl (by decide) (by decide) (fun r_22 u H locs w_21 hP hD hS => ?_)
        have hP : va_P (dC, dI) cl ([] ++ va_pl u.1 (gE cO u.2)) H := hP
        have hD : va_D A ([] ++ va_pl u.1 (gE cO u.2)) := hD
        obtain ⟨r_22e, hu⟩ := w_21
        subst r_22e
        have hgq := hu.2.2.kd2 l1.k.1 (y := q_8) (by rw [z1.1]; decide)
        have kq : u.2.1 q_8 = 2 := hgq.1.trans z1.1
        have hlf : LF G u.2 li := fun b hb1 hb2 hb3 => by
          have e1 := z3 b (fun e9 => hb1 (by rw [e9]; exact hq0))
          exact e1.tr (hu.2.2 b (by rw [e1.1]; exact hb1) hb2 (by rw [e1.1, e1.2.1]; exact hb3))
        refine lv_pop hx hb d_Parser_findOrAddInner_56 rfl ?_
        refine lv_aload_n hx hb d_Parser_findOrAddInner_57 rfl (lv_at hl 0 rfl) ?_
        exact wr_q (r := some q_8) hx hb hr ⟨_, rfl⟩ hlocks u (Or.inr (Or.inr ⟨rfl, rfl, by omega, q_8, rfl, nq_8, z1.keep hgq, hu.1, hu.2.1, hlf⟩)) hK hP hD hS d_Parser_findOrAddInner_58
    · refine lv_astore_n (lv' := [(2, .ref x2), (0, .ref a), (1, .ref wn)]) hx hb d_Parser_findOrAddInner_21 rfl hl (by decide) rfl (fun ls hl => ?_)
      refine lv_aload_n hx hb d_Parser_findOrAddInner_22 rfl (lv_at hl 0 rfl) ?_
      refine lv_ifnonnull (tgt := 57) hx hb d_Parser_findOrAddInner_23 (by decide) ?_
      refine lv_aload_n hx hb d_Parser_findOrAddInner_57 rfl (lv_at hl 0 rfl) ?_
      refine W.widen (k := 2) (n := 607) (by omega) (by omega) ?_
      exact wr_q (r := some x2) hx hb hr ⟨_, rfl⟩ hlocks (L, G) (Or.inl ⟨x2, Or.inr ⟨rfl, rfl⟩, rfl, rfl⟩) hK hP hD hS d_Parser_findOrAddInner_58
  · refine lv_astore_n (lv' := [(2, .ref x1), (0, .ref a), (1, .ref wn)]) hx hb d_Parser_findOrAddInner_8 rfl hl (by decide) rfl (fun ls hl => ?_)
    refine lv_aload_n hx hb d_Parser_findOrAddInner_9 rfl (lv_at hl 0 rfl) ?_
    refine lv_ifnonnull (tgt := 22) hx hb d_Parser_findOrAddInner_10 (by decide) ?_
    refine lv_aload_n hx hb d_Parser_findOrAddInner_22 rfl (lv_at hl 0 rfl) ?_
    refine lv_ifnonnull (tgt := 57) hx hb d_Parser_findOrAddInner_23 (by decide) ?_
    refine lv_aload_n hx hb d_Parser_findOrAddInner_57 rfl (lv_at hl 0 rfl) ?_
    refine W.widen (k := 2) (n := 607) (by omega) (by omega) ?_
    exact wr_q (r := some x1) hx hb hr ⟨_, rfl⟩ hlocks (L, G) (Or.inl ⟨x1, Or.inl rfl, rfl, rfl⟩) hK hP hD hS d_Parser_findOrAddInner_58
