set_option maxHeartbeats 4000000 in
set_option maxRecDepth 100000 in
/-- width(n) -/
theorem p_Side_width2 (l : Launch) (dC : Nat → ClassId) (dI : Nat → Nat → Nat) (cB cI cL cZ cC cO : ClassId) {L : List Nat} {G : PG} (s0 n : Nat) (t0 sz : Nat) (hL : gL L G) (hs : G.1 s0 = 3) (ho : ∀ z, G.2.2.1 s0 2 = some z → z < 2 ^ 31) (hlo : G.2.1 s0 3 < 100) (hhi : G.2.1 s0 4 < 100) (hlh : ¬ G.2.2.1 s0 2 = none → G.2.1 s0 3 ≤ G.2.1 s0 4) : Met l y_Side_width w_Side_width ({ frames := 1, cells := 0, slots := 0, locals := 40 }) (va_Pc [.ref s0, .int (nI n)] (wB2 (dC, dI) cl [(cB, .byte), (cI, .int), (cL, .long), (cZ, .boolean), (cC, .char), (cO, .object "java/lang/Object")] sz t0 ([] ++ va_pl L (gE cO G)))) (va_Qi (fun (r : Int32) (u : Unit) => r = nI (m_bits (G.2.2.1 s0 2) (G.2.1 s0 3) (G.2.1 s0 4) (n))) (fun _ t => wA (dC, dI) cl [(cB, .byte), (cI, .int), (cL, .long), (cZ, .boolean), (cC, .char), (cO, .object "java/lang/Object")] (va_A ([] ++ va_pl L (gE cO G)) sz) ([] ++ va_pl L (gE cO G)) t) (va_A ([] ++ va_pl L (gE cO G)) sz)) 0 0 (va_A ([] ++ va_pl L (gE cO G)) sz) := by
  refine Met.ofW (cc := b_Side_width) (maxL := 2) (ret := (some ClassFile.FieldType.int)) (by decide) rfl ?_
  intro p e s m args below meth c s₁ B hml hv
  obtain ⟨rfl, ⟨hsz, hP, hK, hD0, hF⟩, hE⟩ := hv
  have hx := B.exec
  have hb := B.bytes
  have hr := B.returns
  have hts := atoms_spec (ws := w_Side_width) B.pre
  have hts : ∀ w ∈ tb, w.before _ s = true := fun w h => hts w (List.mem_cons_of_mem _ h)
  have hown : s.vm.findClass R_Side = some m.cls := findClass_of_methodNamed B.named
  have hlocks := B.notSynchronized
  subst hsz
  have hD := hD0.self (sz := s.heap.size)
  generalize hAe : va_A ([] ++ va_pl L (gE cO G)) s.heap.size = A at hD hF hE ⊢
  have hA : ∀ q : Nat, s.heap.size ≤ q → A q := fun q h => by rw [← hAe]; exact Or.inr h
  have hS : va_S A s.heap s.heap [] := va_S.rf
  have hP : va_P (dC, dI) cl ([] ++ va_pl L (gE cO G)) s.heap := hP
  have hl := lv_entry ([.ref s0, .int (nI n)]) (n := 2) (Nat.le_of_ble_eq_true rfl)
  rw [lg_entry_eq]
  generalize (lg_sl ([.ref s0, .int (nI n)]) ++ List.replicate (2 - (lg_sl ([.ref s0, .int (nI n)])).length) Slot.unset).toArray = ls at hl ⊢
  have hl : lv_has ls 2 [(0, .ref s0), (1, .int (nI n))] := hl
  refine lv_aload_n hx hb d_Side_width_0 rfl (lv_at hl 0 rfl) ?_
  refine wd_i (cx := []) (wr := []) (pl := va_pl L (gE cO G)) (va_runV (As := []) (rest := []) ⟨hx, hb, hml, hown, hts⟩ (p_Side_hasRange l dC dI cB cI cL cZ cC cO (G := G) s0 t0 _ hL hs ho) (cwV 0 hts (good_V k_710 k_711 k_712 k_21 k_713) rfl rfl rfl (by decide +kernel) ⟨Nat.le_of_ble_eq_true rfl, Nat.le_of_ble_eq_true rfl⟩) (wd_preV (ci := 11) (r := (R_Side, F_Side, 5)) hK hP hD hS hA hF hE [] (by decide) rfl rfl (pq_at (gL_m hL hs (by decide)) (gE_3 (G := G) hs))) rfl rfl hl.1 rfl (lv_room (Nat.le_of_ble_eq_true rfl)) d_Side_width_1 ⟨Nat.le_of_ble_eq_true rfl, Nat.le_of_ble_eq_true rfl⟩) hP hD hS hA [] [] rfl rfl (by decide) (by decide) (fun r_2 _ H locs w_1 hP hD hS => ?_)
  have hP : va_P (dC, dI) cl ([] ++ va_pl L (gE cO G)) H := hP
  have hD : va_D A ([] ++ va_pl L (gE cO G)) := hD
  subst w_1
  refine nv_bif_eq (tgt := 21) hx hb d_Side_width_4 (by decide) (fun c_3 => ?_) (fun c_3 => ?_)
  · refine lv_iload_n hx hb d_Side_width_21 rfl (lv_at hl 1 rfl) ?_
    exact wr_i hx hb hr hlocks () (congrArg nI (by unfold m_bits; first | (rw [if_pos (by simpa using c_3)]) | (rw [if_neg (by simpa using c_3)]))) hK hP hD hS d_Side_width_22
  · have hle := hlh (by simpa using c_3)
    refine lv_aload_n hx hb d_Side_width_7 rfl (lv_at hl 0 rfl) ?_
    refine pq_get (D := (dC, dI)) (ci := 11) (v := .int (nI (G.2.1 s0 4))) (C := R_Side) (T := F_Side) (N := 5) hx hb hts i_Side hown hK hP (gL_m hL hs (by decide)) (gE_3 (G := G) hs) rfl 4 (by decide) (hts _ k_625) (fun _ h9 => h9) rfl d_Side_width_8 ?_
    refine lv_aload_n hx hb d_Side_width_11 rfl (lv_at hl 0 rfl) ?_
    refine pq_get (D := (dC, dI)) (ci := 11) (v := .int (nI (G.2.1 s0 3))) (C := R_Side) (T := F_Side) (N := 5) hx hb hts i_Side hown hK hP (gL_m hL hs (by decide)) (gE_3 (G := G) hs) rfl 3 (by decide) (hts _ k_622) (fun _ h9 => h9) rfl d_Side_width_12 ?_
    refine nv_isub hx hb (by omega) d_Side_width_15 ?_
    refine lv_iconst (v := nI 1) hx hb d_Side_width_16 (by decide) ?_
    refine nv_iadd hx hb d_Side_width_17 ?_
    refine lv_goto (tgt := 22) hx hb d_Side_width_18 (by decide) ?_
    exact wr_i hx hb hr hlocks () (congrArg nI (by unfold m_bits; first | (rw [if_pos (by simpa using c_3)]) | (rw [if_neg (by simpa using c_3)]))) hK hP hD hS d_Side_width_22
set_option maxHeartbeats 4000000 in
set_option maxRecDepth 100000 in
/-- bitMask(n) -/
theorem p_Side_bitMask2 (l : Launch) (dC : Nat → ClassId) (dI : Nat → Nat → Nat) (cB cI cL cZ cC cO : ClassId) {L : List Nat} {G : PG} (s0 n : Nat) (t0 sz : Nat) (hL : gL L G) (hs : G.1 s0 = 3) (ho : ∀ z, G.2.2.1 s0 2 = some z → z < 2 ^ 31) (hlo : G.2.1 s0 3 < 100) (hhi : G.2.1 s0 4 < 100) (hlh : ¬ G.2.2.1 s0 2 = none → G.2.1 s0 3 ≤ G.2.1 s0 4) : Met l y_Side_bitMask w_Side_bitMask ({ frames := 2, cells := 0, slots := 0, locals := 80 }) (va_Pc [.ref s0, .int (nI n)] (wB2 (dC, dI) cl [(cB, .byte), (cI, .int), (cL, .long), (cZ, .boolean), (cC, .char), (cO, .object "java/lang/Object")] sz t0 ([] ++ va_pl L (gE cO G)))) (va_Qi (fun (r : Int32) (u : Unit) => r = sd_mask (G.2.2.1 s0 2) (G.2.1 s0 3) (G.2.1 s0 4) n) (fun _ t => wA (dC, dI) cl [(cB, .byte), (cI, .int), (cL, .long), (cZ, .boolean), (cC, .char), (cO, .object "java/lang/Object")] (va_A ([] ++ va_pl L (gE cO G)) sz) ([] ++ va_pl L (gE cO G)) t) (va_A ([] ++ va_pl L (gE cO G)) sz)) 0 0 (va_A ([] ++ va_pl L (gE cO G)) sz) := by
  refine Met.ofW (cc := b_Side_bitMask) (maxL := 2) (ret := (some ClassFile.FieldType.int)) (by decide) rfl ?_
  intro p e s m args below meth c s₁ B hml hv
  obtain ⟨rfl, ⟨hsz, hP, hK, hD0, hF⟩, hE⟩ := hv
  have hx := B.exec
  have hb := B.bytes
  have hr := B.returns
  have hts := atoms_spec (ws := w_Side_bitMask) B.pre
  have hts : ∀ w ∈ tb, w.before _ s = true := fun w h => hts w (List.mem_cons_of_mem _ h)
  have hown : s.vm.findClass R_Side = some m.cls := findClass_of_methodNamed B.named
  have hlocks := B.notSynchronized
  subst hsz
  have hD := hD0.self (sz := s.heap.size)
  generalize hAe : va_A ([] ++ va_pl L (gE cO G)) s.heap.size = A at hD hF hE ⊢
  have hA : ∀ q : Nat, s.heap.size ≤ q → A q := fun q h => by rw [← hAe]; exact Or.inr h
  have hS : va_S A s.heap s.heap [] := va_S.rf
  have hP : va_P (dC, dI) cl ([] ++ va_pl L (gE cO G)) s.heap := hP
  have hl := lv_entry ([.ref s0, .int (nI n)]) (n := 2) (Nat.le_of_ble_eq_true rfl)
  rw [lg_entry_eq]
  generalize (lg_sl ([.ref s0, .int (nI n)]) ++ List.replicate (2 - (lg_sl ([.ref s0, .int (nI n)])).length) Slot.unset).toArray = ls at hl ⊢
  have hl : lv_has ls 2 [(0, .ref s0), (1, .int (nI n))] := hl
  refine lv_iconst (v := nI 1) hx hb d_Side_bitMask_0 (by decide) ?_
  refine lv_aload_n hx hb d_Side_bitMask_1 rfl (lv_at hl 0 rfl) ?_
  refine lv_iload_n hx hb d_Side_bitMask_2 rfl (lv_at hl 1 rfl) ?_
  refine wd_i (cx := []) (wr := []) (pl := va_pl L (gE cO G)) (va_runV (As := [.int (nI n)]) (rest := [.int (nI 1)]) ⟨hx, hb, hml, hown, hts⟩ (p_Side_width2 l dC dI cB cI cL cZ cC cO s0 n t0 _ hL hs ho hlo hhi hlh) (cwV 1 hts (good_V k_747 k_715 k_716 k_21 k_717) rfl rfl rfl (by decide +kernel) ⟨Nat.le_of_ble_eq_true rfl, Nat.le_of_ble_eq_true rfl⟩) (wd_preV (ci := 11) (r := (R_Side, F_Side, 5)) hK hP hD hS hA hF hE [] (by decide) rfl rfl (pq_at (gL_m hL hs (by decide)) (gE_3 (G := G) hs))) rfl rfl hl.1 rfl (lv_room (Nat.le_of_ble_eq_true rfl)) d_Side_bitMask_3 ⟨Nat.le_of_ble_eq_true rfl, Nat.le_of_ble_eq_true rfl⟩) hP hD hS hA [] [] rfl rfl (by decide) (by decide) (fun r_2 _ H locs w_1 hP hD hS => ?_)
  have hP : va_P (dC, dI) cl ([] ++ va_pl L (gE cO G)) H := hP
  have hD : va_D A ([] ++ va_pl L (gE cO G)) := hD
  subst w_1
  refine lv_ishl hx hb d_Side_bitMask_6 ?_
  refine lv_iconst (v := nI 1) hx hb d_Side_bitMask_7 (by decide) ?_
  refine lv_isub hx hb d_Side_bitMask_8 ?_
  refine lv_aload_n hx hb d_Side_bitMask_9 rfl (lv_at hl 0 rfl) ?_
  refine pq_get (D := (dC, dI)) (ci := 11) (v := .int (nI (G.2.1 s0 3))) (C := R_Side) (T := F_Side) (N := 5) hx hb hts i_Side hown hK hP (gL_m hL hs (by decide)) (gE_3 (G := G) hs) rfl 3 (by decide) (hts _ k_622) (fun _ h9 => h9) rfl d_Side_bitMask_10 ?_
  refine lv_ishl hx hb d_Side_bitMask_13 ?_
  exact wr_i hx hb hr hlocks () rfl hK hP hD hS d_Side_bitMask_14
def rir (G : PG) (w s : Nat) : Bool := if G.2.1 w 1 = 2 then decide (G.2.2.1 s 2 = none) else m_fits (G.2.2.1 s 2) (G.2.1 s 3) (G.2.1 s 4) (G.2.1 w 2)
theorem fits_le {o : Option Nat} {i j n : Nat} (h : m_fits o i j n = true) (ho : ¬ o = none) : i ≤ j := by
  unfold m_fits at h; rw [if_neg ho] at h; simp at h; exact h.1
theorem d_Checker_rangeIsRight_0 : decode b_Checker_rangeIsRight 0 = .ok (.aload_n 0, 1) := by decide +kernel
theorem d_Checker_rangeIsRight_1 : decode b_Checker_rangeIsRight 1 = .ok (.getfield 128, 3) := by decide +kernel
theorem d_Checker_rangeIsRight_4 : decode b_Checker_rangeIsRight 4 = .ok (.iconst 2, 1) := by decide +kernel
theorem d_Checker_rangeIsRight_5 : decode b_Checker_rangeIsRight 5 = .ok (.if_icmp .ne 18, 3) := by decide +kernel
theorem d_Checker_rangeIsRight_8 : decode b_Checker_rangeIsRight 8 = .ok (.aload_n 1, 1) := by decide +kernel
theorem d_Checker_rangeIsRight_9 : decode b_Checker_rangeIsRight 9 = .ok (.invokevirtual 181, 3) := by decide +kernel
theorem d_Checker_rangeIsRight_12 : decode b_Checker_rangeIsRight 12 = .ok (.ifCond .ne 7, 3) := by decide +kernel
theorem d_Checker_rangeIsRight_15 : decode b_Checker_rangeIsRight 15 = .ok (.iconst 1, 1) := by decide +kernel
theorem d_Checker_rangeIsRight_16 : decode b_Checker_rangeIsRight 16 = .ok (.goto 15, 3) := by decide +kernel
theorem d_Checker_rangeIsRight_19 : decode b_Checker_rangeIsRight 19 = .ok (.iconst 0, 1) := by decide +kernel
theorem d_Checker_rangeIsRight_20 : decode b_Checker_rangeIsRight 20 = .ok (.goto 11, 3) := by decide +kernel
theorem d_Checker_rangeIsRight_23 : decode b_Checker_rangeIsRight 23 = .ok (.aload_n 1, 1) := by decide +kernel
theorem d_Checker_rangeIsRight_24 : decode b_Checker_rangeIsRight 24 = .ok (.aload_n 0, 1) := by decide +kernel
theorem d_Checker_rangeIsRight_25 : decode b_Checker_rangeIsRight 25 = .ok (.getfield 137, 3) := by decide +kernel
theorem d_Checker_rangeIsRight_28 : decode b_Checker_rangeIsRight 28 = .ok (.invokevirtual 140, 3) := by decide +kernel
theorem d_Checker_rangeIsRight_31 : decode b_Checker_rangeIsRight 31 = .ok (.ireturn, 1) := by decide +kernel
set_option maxHeartbeats 4000000 in
set_option maxRecDepth 100000 in
/-- rangeIsRight(wire, side) -/
theorem p_Checker_rangeIsRight (l : Launch) (dC : Nat → ClassId) (dI : Nat → Nat → Nat) (cB cI cL cZ cC cO : ClassId) {L : List Nat} {G : PG} (w s0 : Nat) (t0 sz : Nat) (hL : gL L G) (hs : G.1 s0 = 3) (ho : ∀ z, G.2.2.1 s0 2 = some z → z < 2 ^ 31) (hlo : G.2.1 s0 3 < 100) (hhi : G.2.1 s0 4 < 100) (hw : G.1 w = 2) (hk : G.2.1 w 1 < 3) (hwd : G.2.1 w 2 < 100) : Met l y_Checker_rangeIsRight w_Checker_rangeIsRight ({ frames := 2, cells := 0, slots := 0, locals := 80 }) (va_Pc [.ref w, .ref s0] (wB2 (dC, dI) cl [(cB, .byte), (cI, .int), (cL, .long), (cZ, .boolean), (cC, .char), (cO, .object "java/lang/Object")] sz t0 ([] ++ va_pl L (gE cO G)))) (va_Qi (fun (r : Int32) (u : Unit) => r = bI (rir G w s0)) (fun _ t => wA (dC, dI) cl [(cB, .byte), (cI, .int), (cL, .long), (cZ, .boolean), (cC, .char), (cO, .object "java/lang/Object")] (va_A ([] ++ va_pl L (gE cO G)) sz) ([] ++ va_pl L (gE cO G)) t) (va_A ([] ++ va_pl L (gE cO G)) sz)) 0 0 (va_A ([] ++ va_pl L (gE cO G)) sz) := by
  refine Met.ofW (cc := b_Checker_rangeIsRight) (maxL := 2) (ret := (some ClassFile.FieldType.boolean)) (by decide) rfl ?_
  intro p e s m args below meth c s₁ B hml hv
  obtain ⟨rfl, ⟨hsz, hP, hK, hD0, hF⟩, hE⟩ := hv
  have hx := B.exec
  have hb := B.bytes
  have hr := B.returns
  have hts := atoms_spec (ws := w_Checker_rangeIsRight) B.pre
  have hts : ∀ w ∈ tb, w.before _ s = true := fun w h => hts w (List.mem_cons_of_mem _ h)
  have hown : s.vm.findClass R_Checker = some m.cls := findClass_of_methodNamed B.named
  have hlocks := B.notSynchronized
  subst hsz
  have hD := hD0.self (sz := s.heap.size)
  generalize hAe : va_A ([] ++ va_pl L (gE cO G)) s.heap.size = A at hD hF hE ⊢
  have hA : ∀ q : Nat, s.heap.size ≤ q → A q := fun q h => by rw [← hAe]; exact Or.inr h
  have hS : va_S A s.heap s.heap [] := va_S.rf
  have hP : va_P (dC, dI) cl ([] ++ va_pl L (gE cO G)) s.heap := hP
  have hl := lv_entry ([.ref w, .ref s0]) (n := 2) (Nat.le_of_ble_eq_true rfl)
  rw [lg_entry_eq]
  generalize (lg_sl ([.ref w, .ref s0]) ++ List.replicate (2 - (lg_sl ([.ref w, .ref s0])).length) Slot.unset).toArray = ls at hl ⊢
  have hl : lv_has ls 2 [(0, .ref w), (1, .ref s0)] := hl
  refine lv_aload_n hx hb d_Checker_rangeIsRight_0 rfl (lv_at hl 0 rfl) ?_
  refine pq_get (D := (dC, dI)) (ci := 8) (v := .int (nI (G.2.1 w 1))) (C := R_Wire) (T := F_Wire) (N := 7) hx hb hts i_Wire hown hK hP (gL_m hL hw (by decide)) (gE_2 (G := G) hw) rfl 1 (by decide) (hts _ k_219) (fun _ h9 => h9) rfl d_Checker_rangeIsRight_1 ?_
  refine lv_iconst (v := nI 2) hx hb d_Checker_rangeIsRight_4 (by decide) ?_
  refine nv_icmp_ne (tgt := 23) hx hb (by omega) (by omega) d_Checker_rangeIsRight_5 (by decide) (fun c_1 => ?_) (fun c_1 => ?_)
  · refine lv_aload_n hx hb d_Checker_rangeIsRight_23 rfl (lv_at hl 1 rfl) ?_
    refine lv_aload_n hx hb d_Checker_rangeIsRight_24 rfl (lv_at hl 0 rfl) ?_
    refine pq_get (D := (dC, dI)) (ci := 8) (v := .int (nI (G.2.1 w 2))) (C := R_Wire) (T := F_Wire) (N := 7) hx hb hts i_Wire hown hK hP (gL_m hL hw (by decide)) (gE_2 (G := G) hw) rfl 2 (by decide) (hts _ k_222) (fun _ h9 => h9) rfl d_Checker_rangeIsRight_25 ?_
    refine wd_i (cx := []) (wr := []) (pl := va_pl L (gE cO G)) (va_runV (As := [.int (nI (G.2.1 w 2))]) (rest := []) ⟨hx, hb, hml, hown, hts⟩ (p_Side_fits l dC dI cB cI cL cZ cC cO s0 (G.2.1 w 2) t0 _ hL hs ho hlo hhi (by omega)) (cwV 1 hts (good_V k_706 k_707 k_708 k_21 k_709) rfl rfl rfl (by decide +kernel) ⟨Nat.le_of_ble_eq_true rfl, Nat.le_of_ble_eq_true rfl⟩) (wd_preV (ci := 11) (r := (R_Side, F_Side, 5)) hK hP hD hS hA hF hE [] (by decide) rfl rfl (pq_at (gL_m hL hs (by decide)) (gE_3 (G := G) hs))) rfl rfl hl.1 rfl (lv_room (Nat.le_of_ble_eq_true rfl)) d_Checker_rangeIsRight_28 ⟨Nat.le_of_ble_eq_true rfl, Nat.le_of_ble_eq_true rfl⟩) hP hD hS hA [] [] rfl rfl (by decide) (by decide) (fun r_3 _ H locs w_2 hP hD hS => ?_)
    have hP : va_P (dC, dI) cl ([] ++ va_pl L (gE cO G)) H := hP
    have hD : va_D A ([] ++ va_pl L (gE cO G)) := hD
    subst w_2
    exact wr_z (x := m_fits (G.2.2.1 s0 2) (G.2.1 s0 3) (G.2.1 s0 4) (G.2.1 w 2)) hx hb hr hlocks () (congrArg bI (by unfold rir; rw [if_neg c_1])) hK hP hD hS d_Checker_rangeIsRight_31
  · refine lv_aload_n hx hb d_Checker_rangeIsRight_8 rfl (lv_at hl 1 rfl) ?_
    refine wd_i (cx := []) (wr := []) (pl := va_pl L (gE cO G)) (va_runV (As := []) (rest := []) ⟨hx, hb, hml, hown, hts⟩ (p_Side_hasRange l dC dI cB cI cL cZ cC cO (G := G) s0 t0 _ hL hs ho) (cwV 0 hts (good_V k_742 k_711 k_712 k_21 k_713) rfl rfl rfl (by decide +kernel) ⟨Nat.le_of_ble_eq_true rfl, Nat.le_of_ble_eq_true rfl⟩) (wd_preV (ci := 11) (r := (R_Side, F_Side, 5)) hK hP hD hS hA hF hE [] (by decide) rfl rfl (pq_at (gL_m hL hs (by decide)) (gE_3 (G := G) hs))) rfl rfl hl.1 rfl (lv_room (Nat.le_of_ble_eq_true rfl)) d_Checker_rangeIsRight_9 ⟨Nat.le_of_ble_eq_true rfl, Nat.le_of_ble_eq_true rfl⟩) hP hD hS hA [] [] rfl rfl (by decide) (by decide) (fun r_5 _ H locs w_4 hP hD hS => ?_)
    have hP : va_P (dC, dI) cl ([] ++ va_pl L (gE cO G)) H := hP
    have hD : va_D A ([] ++ va_pl L (gE cO G)) := hD
    subst w_4
    refine nv_bif_ne (tgt := 19) hx hb d_Checker_rangeIsRight_12 (by decide) (fun c_6 => ?_) (fun c_6 => ?_)
    · refine lv_iconst (v := nI 0) hx hb d_Checker_rangeIsRight_19 (by decide) ?_
      refine lv_goto (tgt := 31) hx hb d_Checker_rangeIsRight_20 (by decide) ?_
      exact wr_z (x := false) hx hb hr hlocks () (congrArg bI (by unfold rir; rw [if_pos c_1]; have q9 := c_6; simp at q9; simp [q9])) hK hP hD hS d_Checker_rangeIsRight_31
    · refine lv_iconst (v := nI 1) hx hb d_Checker_rangeIsRight_15 (by decide) ?_
      refine lv_goto (tgt := 31) hx hb d_Checker_rangeIsRight_16 (by decide) ?_
      exact wr_z (x := true) hx hb hr hlocks () (congrArg bI (by unfold rir; rw [if_pos c_1]; have q9 := c_6; simp at q9; simp [q9])) hK hP hD hS d_Checker_rangeIsRight_31
/-- giveInner: the first link from an OUT pin tells an inner name's width -/
def gvi (G : PG) (k s : Nat) : PG := match G.2.2.2.2.2 k 2, G.2.2.2.2.2 k 3 with
  | some p, some w => if G.2.1 p 1 = 1 ∧ G.2.1 w 1 = 2 ∧ G.2.2.2.1 w 6 = false then gN (gB G w 6 true) w 2 (if m_fits (G.2.2.1 s 2) (G.2.1 s 3) (G.2.1 s 4) (G.2.1 p 2) = true then m_bits (G.2.2.1 s 2) (G.2.1 s 3) (G.2.1 s 4) (G.2.1 p 2) else 0) else G
  | _, _ => G
theorem d_Checker_giveInner_0 : decode b_Checker_giveInner 0 = .ok (.aload_n 0, 1) := by decide +kernel
theorem d_Checker_giveInner_1 : decode b_Checker_giveInner 1 = .ok (.getfield 117, 3) := by decide +kernel
theorem d_Checker_giveInner_4 : decode b_Checker_giveInner 4 = .ok (.astore_n 1, 1) := by decide +kernel
theorem d_Checker_giveInner_5 : decode b_Checker_giveInner 5 = .ok (.aload_n 0, 1) := by decide +kernel
theorem d_Checker_giveInner_6 : decode b_Checker_giveInner 6 = .ok (.getfield 125, 3) := by decide +kernel
theorem d_Checker_giveInner_9 : decode b_Checker_giveInner 9 = .ok (.astore_n 2, 1) := by decide +kernel
theorem d_Checker_giveInner_10 : decode b_Checker_giveInner 10 = .ok (.aload_n 1, 1) := by decide +kernel
theorem d_Checker_giveInner_11 : decode b_Checker_giveInner 11 = .ok (.ifnull 30, 3) := by decide +kernel
theorem d_Checker_giveInner_14 : decode b_Checker_giveInner 14 = .ok (.aload_n 2, 1) := by decide +kernel
theorem d_Checker_giveInner_15 : decode b_Checker_giveInner 15 = .ok (.ifnull 26, 3) := by decide +kernel
theorem d_Checker_giveInner_18 : decode b_Checker_giveInner 18 = .ok (.aload_n 1, 1) := by decide +kernel
theorem d_Checker_giveInner_19 : decode b_Checker_giveInner 19 = .ok (.getfield 128, 3) := by decide +kernel
theorem d_Checker_giveInner_22 : decode b_Checker_giveInner 22 = .ok (.iconst 1, 1) := by decide +kernel
theorem d_Checker_giveInner_23 : decode b_Checker_giveInner 23 = .ok (.if_icmp .ne 18, 3) := by decide +kernel
theorem d_Checker_giveInner_26 : decode b_Checker_giveInner 26 = .ok (.aload_n 2, 1) := by decide +kernel
theorem d_Checker_giveInner_27 : decode b_Checker_giveInner 27 = .ok (.getfield 128, 3) := by decide +kernel
theorem d_Checker_giveInner_30 : decode b_Checker_giveInner 30 = .ok (.iconst 2, 1) := by decide +kernel
theorem d_Checker_giveInner_31 : decode b_Checker_giveInner 31 = .ok (.if_icmp .ne 10, 3) := by decide +kernel
theorem d_Checker_giveInner_34 : decode b_Checker_giveInner 34 = .ok (.aload_n 2, 1) := by decide +kernel
theorem d_Checker_giveInner_35 : decode b_Checker_giveInner 35 = .ok (.getfield 133, 3) := by decide +kernel
theorem d_Checker_giveInner_38 : decode b_Checker_giveInner 38 = .ok (.ifCond .eq 4, 3) := by decide +kernel
theorem d_Checker_giveInner_41 : decode b_Checker_giveInner 41 = .ok (.return_, 1) := by decide +kernel
theorem d_Checker_giveInner_42 : decode b_Checker_giveInner 42 = .ok (.aload_n 2, 1) := by decide +kernel
theorem d_Checker_giveInner_43 : decode b_Checker_giveInner 43 = .ok (.iconst 1, 1) := by decide +kernel
theorem d_Checker_giveInner_44 : decode b_Checker_giveInner 44 = .ok (.putfield 133, 3) := by decide +kernel
theorem d_Checker_giveInner_47 : decode b_Checker_giveInner 47 = .ok (.aload_n 2, 1) := by decide +kernel
theorem d_Checker_giveInner_48 : decode b_Checker_giveInner 48 = .ok (.aload_n 0, 1) := by decide +kernel
theorem d_Checker_giveInner_49 : decode b_Checker_giveInner 49 = .ok (.getfield 106, 3) := by decide +kernel
theorem d_Checker_giveInner_52 : decode b_Checker_giveInner 52 = .ok (.aload_n 1, 1) := by decide +kernel
theorem d_Checker_giveInner_53 : decode b_Checker_giveInner 53 = .ok (.getfield 137, 3) := by decide +kernel
theorem d_Checker_giveInner_56 : decode b_Checker_giveInner 56 = .ok (.invokevirtual 140, 3) := by decide +kernel
theorem d_Checker_giveInner_59 : decode b_Checker_giveInner 59 = .ok (.ifCond .eq 17, 3) := by decide +kernel
theorem d_Checker_giveInner_62 : decode b_Checker_giveInner 62 = .ok (.aload_n 0, 1) := by decide +kernel
theorem d_Checker_giveInner_63 : decode b_Checker_giveInner 63 = .ok (.getfield 106, 3) := by decide +kernel
theorem d_Checker_giveInner_66 : decode b_Checker_giveInner 66 = .ok (.aload_n 1, 1) := by decide +kernel
theorem d_Checker_giveInner_67 : decode b_Checker_giveInner 67 = .ok (.getfield 137, 3) := by decide +kernel
theorem d_Checker_giveInner_70 : decode b_Checker_giveInner 70 = .ok (.invokevirtual 144, 3) := by decide +kernel
theorem d_Checker_giveInner_73 : decode b_Checker_giveInner 73 = .ok (.goto 4, 3) := by decide +kernel
theorem d_Checker_giveInner_76 : decode b_Checker_giveInner 76 = .ok (.iconst 0, 1) := by decide +kernel
theorem d_Checker_giveInner_77 : decode b_Checker_giveInner 77 = .ok (.putfield 137, 3) := by decide +kernel
theorem d_Checker_giveInner_80 : decode b_Checker_giveInner 80 = .ok (.return_, 1) := by decide +kernel
set_option maxHeartbeats 4000000 in
set_option maxRecDepth 100000 in
/-- giveInner(link) -/
theorem p_Checker_giveInner (l : Launch) (dC : Nat → ClassId) (dI : Nat → Nat → Nat) (cB cI cL cZ cC cO : ClassId) {L : List Nat} {G : PG} (k0 s0 : Nat) (t0 sz : Nat) (hL : gL L G) (hk : G.1 k0 = 4) (hlf : G.2.2.2.2.2 k0 0 = some s0) (hs : G.1 s0 = 3) (ho : ∀ z, G.2.2.1 s0 2 = some z → z < 2 ^ 31) (hlo : G.2.1 s0 3 < 100) (hhi : G.2.1 s0 4 < 100) (hp : ∀ p, G.2.2.2.2.2 k0 2 = some p → G.1 p = 2 ∧ G.2.1 p 1 < 3 ∧ G.2.1 p 2 < 100) (hw : ∀ p, G.2.2.2.2.2 k0 3 = some p → G.1 p = 2 ∧ G.2.1 p 1 < 3 ∧ G.2.1 p 2 < 100) : Met l y_Checker_giveInner w_Checker_giveInner ({ frames := 2, cells := 0, slots := 0, locals := 80 }) (va_Pc [.ref k0] (wB2 (dC, dI) cl [(cB, .byte), (cI, .int), (cL, .long), (cZ, .boolean), (cC, .char), (cO, .object "java/lang/Object")] sz t0 ([] ++ va_pl L (gE cO G)))) (va_Qv (fun (u : PG) => u = gvi G k0 s0) (fun u t => wA (dC, dI) cl [(cB, .byte), (cI, .int), (cL, .long), (cZ, .boolean), (cC, .char), (cO, .object "java/lang/Object")] (va_A ([] ++ va_pl L (gE cO G)) sz) ([] ++ va_pl L (gE cO u)) t) (va_A ([] ++ va_pl L (gE cO G)) sz)) 0 0 (va_A ([] ++ va_pl L (gE cO G)) sz) := by
  refine Met.ofW (cc := b_Checker_giveInner) (maxL := 3) (ret := none) (by decide) rfl ?_
  intro p e s m args below meth c s₁ B hml hv
  obtain ⟨rfl, ⟨hsz, hP, hK, hD0, hF⟩, hE⟩ := hv
  have hx := B.exec
  have hb := B.bytes
  have hr := B.returns
  have hts := atoms_spec (ws := w_Checker_giveInner) B.pre
  have hts : ∀ w ∈ tb, w.before _ s = true := fun w h => hts w (List.mem_cons_of_mem _ h)
  have hown : s.vm.findClass R_Checker = some m.cls := findClass_of_methodNamed B.named
  have hlocks := B.notSynchronized
  subst hsz
  have hD := hD0.self (sz := s.heap.size)
  generalize hAe : va_A ([] ++ va_pl L (gE cO G)) s.heap.size = A at hD hF hE ⊢
  have hA : ∀ q : Nat, s.heap.size ≤ q → A q := fun q h => by rw [← hAe]; exact Or.inr h
  have hS : va_S A s.heap s.heap [] := va_S.rf
  have hP : va_P (dC, dI) cl ([] ++ va_pl L (gE cO G)) s.heap := hP
  have hl := lv_entry ([.ref k0]) (n := 3) (Nat.le_of_ble_eq_true rfl)
  rw [lg_entry_eq]
  generalize (lg_sl ([.ref k0]) ++ List.replicate (3 - (lg_sl ([.ref k0])).length) Slot.unset).toArray = ls at hl ⊢
  have hl : lv_has ls 3 [(0, .ref k0)] := hl
  rcases hpin : G.2.2.2.2.2 k0 2 with _ | p0
  · rcases hwir : G.2.2.2.2.2 k0 3 with _ | w0
    · refine lv_aload_n hx hb d_Checker_giveInner_0 rfl (lv_at hl 0 rfl) ?_
      refine pq_get (D := (dC, dI)) (ci := 12) (v := .null) (C := R_Link) (T := F_Link) (N := 4) hx hb hts i_Link hown hK hP (gL_m hL hk (by decide)) (gE_4 (G := G) hk) rfl 2 (by decide) (hts _ k_659) (fun _ h9 => h9) (congrArg (fun z9 => some (va_rf z9)) hpin) d_Checker_giveInner_1 ?_
      refine lv_astore_nN (lv' := [(1, .null), (0, .ref k0)]) hx hb d_Checker_giveInner_4 rfl hl (by decide) rfl (fun ls hl => ?_)
      refine lv_aload_n hx hb d_Checker_giveInner_5 rfl (lv_at hl 1 rfl) ?_
      refine pq_get (D := (dC, dI)) (ci := 12) (v := .null) (C := R_Link) (T := F_Link) (N := 4) hx hb hts i_Link hown hK hP (gL_m hL hk (by decide)) (gE_4 (G := G) hk) rfl 3 (by decide) (hts _ k_662) (fun _ h9 => h9) (congrArg (fun z9 => some (va_rf z9)) hwir) d_Checker_giveInner_6 ?_
      refine lv_astore_nN (lv' := [(2, .null), (1, .null), (0, .ref k0)]) hx hb d_Checker_giveInner_9 rfl hl (by decide) rfl (fun ls hl => ?_)
      refine lv_aload_nN hx hb d_Checker_giveInner_10 rfl (lv_at hl 1 rfl) ?_
      refine lv_ifnullN (tgt := 41) hx hb d_Checker_giveInner_11 (by decide) ?_
      exact wr_v hx hb hr hlocks (G) (by unfold gvi; rw [hpin, hwir]) hK hP hD hS d_Checker_giveInner_41
    · refine lv_aload_n hx hb d_Checker_giveInner_0 rfl (lv_at hl 0 rfl) ?_
      refine pq_get (D := (dC, dI)) (ci := 12) (v := .null) (C := R_Link) (T := F_Link) (N := 4) hx hb hts i_Link hown hK hP (gL_m hL hk (by decide)) (gE_4 (G := G) hk) rfl 2 (by decide) (hts _ k_659) (fun _ h9 => h9) (congrArg (fun z9 => some (va_rf z9)) hpin) d_Checker_giveInner_1 ?_
      refine lv_astore_nN (lv' := [(1, .null), (0, .ref k0)]) hx hb d_Checker_giveInner_4 rfl hl (by decide) rfl (fun ls hl => ?_)
      refine lv_aload_n hx hb d_Checker_giveInner_5 rfl (lv_at hl 1 rfl) ?_
      refine pq_get (D := (dC, dI)) (ci := 12) (v := .ref w0) (C := R_Link) (T := F_Link) (N := 4) hx hb hts i_Link hown hK hP (gL_m hL hk (by decide)) (gE_4 (G := G) hk) rfl 3 (by decide) (hts _ k_662) (fun _ h9 => h9) (congrArg (fun z9 => some (va_rf z9)) hwir) d_Checker_giveInner_6 ?_
      refine lv_astore_n (lv' := [(2, .ref w0), (1, .null), (0, .ref k0)]) hx hb d_Checker_giveInner_9 rfl hl (by decide) rfl (fun ls hl => ?_)
      refine lv_aload_nN hx hb d_Checker_giveInner_10 rfl (lv_at hl 1 rfl) ?_
      refine lv_ifnullN (tgt := 41) hx hb d_Checker_giveInner_11 (by decide) ?_
      exact wr_v hx hb hr hlocks (G) (by unfold gvi; rw [hpin, hwir]) hK hP hD hS d_Checker_giveInner_41
  · rcases hwir : G.2.2.2.2.2 k0 3 with _ | w0
    · refine lv_aload_n hx hb d_Checker_giveInner_0 rfl (lv_at hl 0 rfl) ?_
      refine pq_get (D := (dC, dI)) (ci := 12) (v := .ref p0) (C := R_Link) (T := F_Link) (N := 4) hx hb hts i_Link hown hK hP (gL_m hL hk (by decide)) (gE_4 (G := G) hk) rfl 2 (by decide) (hts _ k_659) (fun _ h9 => h9) (congrArg (fun z9 => some (va_rf z9)) hpin) d_Checker_giveInner_1 ?_
      refine lv_astore_n (lv' := [(1, .ref p0), (0, .ref k0)]) hx hb d_Checker_giveInner_4 rfl hl (by decide) rfl (fun ls hl => ?_)
      refine lv_aload_n hx hb d_Checker_giveInner_5 rfl (lv_at hl 1 rfl) ?_
      refine pq_get (D := (dC, dI)) (ci := 12) (v := .null) (C := R_Link) (T := F_Link) (N := 4) hx hb hts i_Link hown hK hP (gL_m hL hk (by decide)) (gE_4 (G := G) hk) rfl 3 (by decide) (hts _ k_662) (fun _ h9 => h9) (congrArg (fun z9 => some (va_rf z9)) hwir) d_Checker_giveInner_6 ?_
      refine lv_astore_nN (lv' := [(2, .null), (1, .ref p0), (0, .ref k0)]) hx hb d_Checker_giveInner_9 rfl hl (by decide) rfl (fun ls hl => ?_)
      refine lv_aload_n hx hb d_Checker_giveInner_10 rfl (lv_at hl 1 rfl) ?_
      refine lv_ifnull hx hb d_Checker_giveInner_11 ?_
      refine lv_aload_nN hx hb d_Checker_giveInner_14 rfl (lv_at hl 0 rfl) ?_
      refine lv_ifnullN (tgt := 41) hx hb d_Checker_giveInner_15 (by decide) ?_
      exact wr_v hx hb hr hlocks (G) (by unfold gvi; rw [hpin, hwir]) hK hP hD hS d_Checker_giveInner_41
    · have hp1 := hp p0 hpin
      have hw1 := hw w0 hwir
      refine lv_aload_n hx hb d_Checker_giveInner_0 rfl (lv_at hl 0 rfl) ?_
      refine pq_get (D := (dC, dI)) (ci := 12) (v := .ref p0) (C := R_Link) (T := F_Link) (N := 4) hx hb hts i_Link hown hK hP (gL_m hL hk (by decide)) (gE_4 (G := G) hk) rfl 2 (by decide) (hts _ k_659) (fun _ h9 => h9) (congrArg (fun z9 => some (va_rf z9)) hpin) d_Checker_giveInner_1 ?_
      refine lv_astore_n (lv' := [(1, .ref p0), (0, .ref k0)]) hx hb d_Checker_giveInner_4 rfl hl (by decide) rfl (fun ls hl => ?_)
      refine lv_aload_n hx hb d_Checker_giveInner_5 rfl (lv_at hl 1 rfl) ?_
      refine pq_get (D := (dC, dI)) (ci := 12) (v := .ref w0) (C := R_Link) (T := F_Link) (N := 4) hx hb hts i_Link hown hK hP (gL_m hL hk (by decide)) (gE_4 (G := G) hk) rfl 3 (by decide) (hts _ k_662) (fun _ h9 => h9) (congrArg (fun z9 => some (va_rf z9)) hwir) d_Checker_giveInner_6 ?_
      refine lv_astore_n (lv' := [(2, .ref w0), (1, .ref p0), (0, .ref k0)]) hx hb d_Checker_giveInner_9 rfl hl (by decide) rfl (fun ls hl => ?_)
      refine lv_aload_n hx hb d_Checker_giveInner_10 rfl (lv_at hl 1 rfl) ?_
      refine lv_ifnull hx hb d_Checker_giveInner_11 ?_
      refine lv_aload_n hx hb d_Checker_giveInner_14 rfl (lv_at hl 0 rfl) ?_
      refine lv_ifnull hx hb d_Checker_giveInner_15 ?_
      refine lv_aload_n hx hb d_Checker_giveInner_18 rfl (lv_at hl 1 rfl) ?_
      refine pq_get (D := (dC, dI)) (ci := 8) (v := .int (nI (G.2.1 p0 1))) (C := R_Wire) (T := F_Wire) (N := 7) hx hb hts i_Wire hown hK hP (gL_m hL hp1.1 (by decide)) (gE_2 (G := G) hp1.1) rfl 1 (by decide) (hts _ k_219) (fun _ h9 => h9) rfl d_Checker_giveInner_19 ?_
      refine lv_iconst (v := nI 1) hx hb d_Checker_giveInner_22 (by decide) ?_
      refine nv_icmp_ne (tgt := 41) hx hb (by omega) (by omega) d_Checker_giveInner_23 (by decide) (fun c_1 => ?_) (fun c_1 => ?_)
      · exact wr_v hx hb hr hlocks (G) (by unfold gvi; rw [hpin, hwir]; exact (if_neg (fun q9 => by first | exact c_1 q9.1 | exact c_1 q9.2.1 | exact absurd (q9.2.2.symm.trans c_1) (by decide))).symm) hK hP hD hS d_Checker_giveInner_41
      · refine lv_aload_n hx hb d_Checker_giveInner_26 rfl (lv_at hl 0 rfl) ?_
        refine pq_get (D := (dC, dI)) (ci := 8) (v := .int (nI (G.2.1 w0 1))) (C := R_Wire) (T := F_Wire) (N := 7) hx hb hts i_Wire hown hK hP (gL_m hL hw1.1 (by decide)) (gE_2 (G := G) hw1.1) rfl 1 (by decide) (hts _ k_219) (fun _ h9 => h9) rfl d_Checker_giveInner_27 ?_
        refine lv_iconst (v := nI 2) hx hb d_Checker_giveInner_30 (by decide) ?_
        refine nv_icmp_ne (tgt := 41) hx hb (by omega) (by omega) d_Checker_giveInner_31 (by decide) (fun c_2 => ?_) (fun c_2 => ?_)
        · exact wr_v hx hb hr hlocks (G) (by unfold gvi; rw [hpin, hwir]; exact (if_neg (fun q9 => by first | exact c_2 q9.1 | exact c_2 q9.2.1 | exact absurd (q9.2.2.symm.trans c_2) (by decide))).symm) hK hP hD hS d_Checker_giveInner_41
        · refine lv_aload_n hx hb d_Checker_giveInner_34 rfl (lv_at hl 0 rfl) ?_
          refine pq_get (D := (dC, dI)) (ci := 8) (v := .int (bI (G.2.2.2.1 w0 6))) (C := R_Wire) (T := F_Wire) (N := 7) hx hb hts i_Wire hown hK hP (gL_m hL hw1.1 (by decide)) (gE_2 (G := G) hw1.1) rfl 6 (by decide) (hts _ k_234) (fun _ h9 => h9) rfl d_Checker_giveInner_35 ?_
          refine nv_bif_eq (tgt := 42) hx hb d_Checker_giveInner_38 (by decide) (fun c_3 => ?_) (fun c_3 => ?_)
          · refine lv_aload_n hx hb d_Checker_giveInner_42 rfl (lv_at hl 0 rfl) ?_
            refine lv_iconst (v := nI 1) hx hb d_Checker_giveInner_43 (by decide) ?_
            refine pq_put (D := (dC, dI)) (ci := 8) (v := .int (bI true)) (ty := .boolean) (C := R_Wire) (T := F_Wire) (N := 7) hx hb hts i_Wire t_Wire t_Wire_ok n_Wire hown hK hP hD hS (gL_m hL hw1.1 (by decide)) (gE_2 (G := G) hw1.1) rfl 6 (by decide) (hts _ k_234) (fun _ h9 => h9) rfl (by decide +kernel) rfl rfl (Nat.le_of_ble_eq_true rfl) (uE_2_6 (G := G) (v := true) hw1.1) d_Checker_giveInner_44 (fun H locs hP hD hS => ?_)
            have hP : va_P (dC, dI) cl ([] ++ va_pl L (gE cO (gB G w0 6 true))) H := hP
            have hD : va_D A ([] ++ va_pl L (gE cO (gB G w0 6 true))) := hD
            refine lv_aload_n hx hb d_Checker_giveInner_47 rfl (lv_at hl 0 rfl) ?_
            refine lv_aload_n hx hb d_Checker_giveInner_48 rfl (lv_at hl 2 rfl) ?_
            refine pq_get (D := (dC, dI)) (ci := 12) (v := .ref s0) (C := R_Link) (T := F_Link) (N := 4) hx hb hts i_Link hown hK hP (gL_m hL hk (by decide)) (gE_4 (G := (gB G w0 6 true)) hk) rfl 0 (by decide) (hts _ k_653) (fun _ h9 => h9) (congrArg (fun z9 => some (va_rf z9)) hlf) d_Checker_giveInner_49 ?_
            refine lv_aload_n hx hb d_Checker_giveInner_52 rfl (lv_at hl 1 rfl) ?_
            refine pq_get (D := (dC, dI)) (ci := 8) (v := .int (nI (G.2.1 p0 2))) (C := R_Wire) (T := F_Wire) (N := 7) hx hb hts i_Wire hown hK hP (gL_m hL hp1.1 (by decide)) (gE_2 (G := (gB G w0 6 true)) hp1.1) rfl 2 (by decide) (hts _ k_222) (fun _ h9 => h9) (congrArg (fun z9 => some (Value.int (nI z9))) rfl) d_Checker_giveInner_53 ?_
            refine wd_i (cx := []) (wr := []) (pl := va_pl L (gE cO (gB G w0 6 true))) (va_runV (As := [.int (nI (G.2.1 p0 2))]) (rest := [.ref w0]) ⟨hx, hb, hml, hown, hts⟩ (p_Side_fits l dC dI cB cI cL cZ cC cO (G := gB G w0 6 true) s0 (G.2.1 p0 2) t0 _ hL hs ho hlo hhi (by omega)) (cwV 1 hts (good_V k_706 k_707 k_708 k_21 k_709) rfl rfl rfl (by decide +kernel) ⟨Nat.le_of_ble_eq_true rfl, Nat.le_of_ble_eq_true rfl⟩) (wd_preV (ci := 11) (r := (R_Side, F_Side, 5)) hK hP hD hS hA hF hE [] (by decide) rfl rfl (pq_at (gL_m hL hs (by decide)) (gE_3 (G := (gB G w0 6 true)) hs))) rfl rfl hl.1 rfl (lv_room (Nat.le_of_ble_eq_true rfl)) d_Checker_giveInner_56 ⟨Nat.le_of_ble_eq_true rfl, Nat.le_of_ble_eq_true rfl⟩) hP hD hS hA [] [] rfl rfl (by decide) (by decide) (fun r_5 _ H locs w_4 hP hD hS => ?_)
            have hP : va_P (dC, dI) cl ([] ++ va_pl L (gE cO (gB G w0 6 true))) H := hP
            have hD : va_D A ([] ++ va_pl L (gE cO (gB G w0 6 true))) := hD
            subst w_4
            refine nv_bif_eq (tgt := 76) hx hb d_Checker_giveInner_59 (by decide) (fun c_6 => ?_) (fun c_6 => ?_)
            · refine lv_iconst (v := nI 0) hx hb d_Checker_giveInner_76 (by decide) ?_
              refine pq_put (D := (dC, dI)) (ci := 8) (v := .int (nI 0)) (ty := .int) (C := R_Wire) (T := F_Wire) (N := 7) hx hb hts i_Wire t_Wire t_Wire_ok n_Wire hown hK hP hD hS (gL_m hL hw1.1 (by decide)) (gE_2 (G := (gB G w0 6 true)) hw1.1) rfl 2 (by decide) (hts _ k_222) (fun _ h9 => h9) rfl (by decide +kernel) rfl rfl (Nat.le_of_ble_eq_true rfl) (uE_2_2 (G := (gB G w0 6 true)) (v := 0) hw1.1) d_Checker_giveInner_77 (fun H locs hP hD hS => ?_)
              have hP : va_P (dC, dI) cl ([] ++ va_pl L (gE cO (gN (gB G w0 6 true) w0 2 0))) H := hP
              have hD : va_D A ([] ++ va_pl L (gE cO (gN (gB G w0 6 true) w0 2 0))) := hD
              exact wr_v hx hb hr hlocks (gN (gB G w0 6 true) w0 2 0) (by unfold gvi; rw [hpin, hwir]; show _ = if _ then _ else _; rw [if_pos ⟨c_1, c_2, c_3⟩, if_neg (by rw [c_6]; decide)]) hK hP hD hS d_Checker_giveInner_80
            · refine lv_aload_n hx hb d_Checker_giveInner_62 rfl (lv_at hl 2 rfl) ?_
              refine pq_get (D := (dC, dI)) (ci := 12) (v := .ref s0) (C := R_Link) (T := F_Link) (N := 4) hx hb hts i_Link hown hK hP (gL_m hL hk (by decide)) (gE_4 (G := (gB G w0 6 true)) hk) rfl 0 (by decide) (hts _ k_653) (fun _ h9 => h9) (congrArg (fun z9 => some (va_rf z9)) hlf) d_Checker_giveInner_63 ?_
              refine lv_aload_n hx hb d_Checker_giveInner_66 rfl (lv_at hl 1 rfl) ?_
              refine pq_get (D := (dC, dI)) (ci := 8) (v := .int (nI (G.2.1 p0 2))) (C := R_Wire) (T := F_Wire) (N := 7) hx hb hts i_Wire hown hK hP (gL_m hL hp1.1 (by decide)) (gE_2 (G := (gB G w0 6 true)) hp1.1) rfl 2 (by decide) (hts _ k_222) (fun _ h9 => h9) (congrArg (fun z9 => some (Value.int (nI z9))) rfl) d_Checker_giveInner_67 ?_
              refine wd_i (cx := []) (wr := []) (pl := va_pl L (gE cO (gB G w0 6 true))) (va_runV (As := [.int (nI (G.2.1 p0 2))]) (rest := [.ref w0]) ⟨hx, hb, hml, hown, hts⟩ (p_Side_width2 l dC dI cB cI cL cZ cC cO (G := gB G w0 6 true) s0 (G.2.1 p0 2) t0 _ hL hs ho hlo hhi (fits_le c_6)) (cwV 1 hts (good_V k_714 k_715 k_716 k_21 k_717) rfl rfl rfl (by decide +kernel) ⟨Nat.le_of_ble_eq_true rfl, Nat.le_of_ble_eq_true rfl⟩) (wd_preV (ci := 11) (r := (R_Side, F_Side, 5)) hK hP hD hS hA hF hE [] (by decide) rfl rfl (pq_at (gL_m hL hs (by decide)) (gE_3 (G := (gB G w0 6 true)) hs))) rfl rfl hl.1 rfl (lv_room (Nat.le_of_ble_eq_true rfl)) d_Checker_giveInner_70 ⟨Nat.le_of_ble_eq_true rfl, Nat.le_of_ble_eq_true rfl⟩) hP hD hS hA [] [] rfl rfl (by decide) (by decide) (fun r_8 _ H locs w_7 hP hD hS => ?_)
              have hP : va_P (dC, dI) cl ([] ++ va_pl L (gE cO (gB G w0 6 true))) H := hP
              have hD : va_D A ([] ++ va_pl L (gE cO (gB G w0 6 true))) := hD
              subst w_7
              refine lv_goto (tgt := 77) hx hb d_Checker_giveInner_73 (by decide) ?_
              refine pq_put (D := (dC, dI)) (ci := 8) (v := .int (nI (m_bits (G.2.2.1 s0 2) (G.2.1 s0 3) (G.2.1 s0 4) (G.2.1 p0 2)))) (ty := .int) (C := R_Wire) (T := F_Wire) (N := 7) hx hb hts i_Wire t_Wire t_Wire_ok n_Wire hown hK hP hD hS (gL_m hL hw1.1 (by decide)) (gE_2 (G := (gB G w0 6 true)) hw1.1) rfl 2 (by decide) (hts _ k_222) (fun _ h9 => h9) rfl (by decide +kernel) rfl rfl (Nat.le_of_ble_eq_true rfl) (uE_2_2 (G := (gB G w0 6 true)) (v := m_bits (G.2.2.1 s0 2) (G.2.1 s0 3) (G.2.1 s0 4) (G.2.1 p0 2)) hw1.1) d_Checker_giveInner_77 (fun H locs hP hD hS => ?_)
              have hP : va_P (dC, dI) cl ([] ++ va_pl L (gE cO (gN (gB G w0 6 true) w0 2 (m_bits (G.2.2.1 s0 2) (G.2.1 s0 3) (G.2.1 s0 4) (G.2.1 p0 2))))) H := hP
              have hD : va_D A ([] ++ va_pl L (gE cO (gN (gB G w0 6 true) w0 2 (m_bits (G.2.2.1 s0 2) (G.2.1 s0 3) (G.2.1 s0 4) (G.2.1 p0 2))))) := hD
              exact wr_v hx hb hr hlocks (gN (gB G w0 6 true) w0 2 (m_bits (G.2.2.1 s0 2) (G.2.1 s0 3) (G.2.1 s0 4) (G.2.1 p0 2))) (by unfold gvi; rw [hpin, hwir]; show _ = if _ then _ else _; rw [if_pos ⟨c_1, c_2, c_3⟩, if_pos c_6]) hK hP hD hS d_Checker_giveInner_80
          · exact wr_v hx hb hr hlocks (G) (by unfold gvi; rw [hpin, hwir]; exact (if_neg (fun q9 => by first | exact c_3 q9.1 | exact c_3 q9.2.1 | exact absurd (q9.2.2.symm.trans c_3) (by decide))).symm) hK hP hD hS d_Checker_giveInner_41
