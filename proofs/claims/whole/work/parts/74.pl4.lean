theorem d_List_grow_0_0 : decode b_List_grow_0 0 = .ok (.aload_n 0, 1) := by decide +kernel
theorem d_List_grow_0_1 : decode b_List_grow_0 1 = .ok (.aload_n 0, 1) := by decide +kernel
theorem d_List_grow_0_2 : decode b_List_grow_0 2 = .ok (.getfield 48, 3) := by decide +kernel
theorem d_List_grow_0_5 : decode b_List_grow_0 5 = .ok (.iconst 1, 1) := by decide +kernel
theorem d_List_grow_0_6 : decode b_List_grow_0 6 = .ok (.iadd, 1) := by decide +kernel
theorem d_List_grow_0_7 : decode b_List_grow_0 7 = .ok (.invokevirtual 69, 3) := by decide +kernel
theorem d_List_grow_0_10 : decode b_List_grow_0 10 = .ok (.areturn, 1) := by decide +kernel
set_option maxHeartbeats 4000000 in
set_option maxRecDepth 100000 in
/-- grow() of a new list -/
theorem p_List_grow_0E (l : Launch) (dC : Nat → ClassId) (dI : Nat → Nat → Nat) (cB cI cL cZ cC cO : ClassId) {L : List Nat} {G : PG} (a : Nat) (xs : List Nat) (t0 sz : Nat) (hL : gL L G) (ha : G.1 a = 7) (hs : G.2.1 a 1 = 0) (h0 : G.2.2.2.2.2 a 0 = some t0) (hxs : xs = []) : Met l y_List_grow_0 w_List_grow_0 ({ frames := 4, cells := 1, slots := 600, locals := 240 }) (va_Pc [.ref a] (wB2 (dC, dI) cl [(cB, .byte), (cI, .int), (cL, .long), (cZ, .boolean), (cC, .char), (cO, .object "java/lang/Object")] sz t0 ([] ++ va_pl L (gE cO G)))) (va_Qq (fun (r : Option Nat) (u : Nat × PG × Nat) => (r = some u.1 ∧ u.1 ∉ L ∧ LSd u.2.1 a xs u.1 u.2.2 ∧ xs.length < u.2.2 ∧ gL (L ++ [u.1]) u.2.1 ∧ LF G u.2.1 a)) (fun u t => wA (dC, dI) cl [(cB, .byte), (cI, .int), (cL, .long), (cZ, .boolean), (cC, .char), (cO, .object "java/lang/Object")] (va_A ([] ++ va_pl L (gE cO G)) sz) ([] ++ va_pl (L ++ [u.1]) (gE cO u.2.1)) t) (va_A ([] ++ va_pl L (gE cO G)) sz)) 1 600 (va_A ([] ++ va_pl L (gE cO G)) sz) := by
  refine Met.ofW (cc := b_List_grow_0) (maxL := 1) (ret := (some (ClassFile.FieldType.array (ClassFile.FieldType.object "java/lang/Object")))) (by decide) rfl ?_
  intro p e s m args below meth c s₁ B hml hv
  obtain ⟨rfl, ⟨hsz, hP, hK, hD0, hF⟩, hE⟩ := hv
  have hx := B.exec
  have hb := B.bytes
  have hr := B.returns
  have hts := atoms_spec (ws := w_List_grow_0) B.pre
  have hts : ∀ w ∈ tb, w.before _ s = true := fun w h => hts w (List.mem_cons_of_mem _ h)
  have hown : s.vm.findClass R_List = some m.cls := findClass_of_methodNamed B.named
  have hlocks := B.notSynchronized
  subst hsz
  have hD := hD0.self (sz := s.heap.size)
  generalize hAe : va_A ([] ++ va_pl L (gE cO G)) s.heap.size = A at hD hF hE ⊢
  have hA : ∀ q : Nat, s.heap.size ≤ q → A q := fun q h => by rw [← hAe]; exact Or.inr h
  have hS : va_S A s.heap s.heap [] := va_S.rf
  have hP : va_P (dC, dI) cl ([] ++ va_pl L (gE cO G)) s.heap := hP
  have hl := lv_entry ([.ref a]) (n := 1) (Nat.le_of_ble_eq_true rfl)
  rw [lg_entry_eq]
  generalize (lg_sl ([.ref a]) ++ List.replicate (1 - (lg_sl ([.ref a])).length) Slot.unset).toArray = ls at hl ⊢
  have hl : lv_has ls 1 [(0, .ref a)] := hl
  refine lv_aload_n hx hb d_List_grow_0_0 rfl (lv_at hl 0 rfl) ?_
  refine lv_aload_n hx hb d_List_grow_0_1 rfl (lv_at hl 0 rfl) ?_
  refine pq_get (D := (dC, dI)) (ci := 4) (v := .int (nI 0)) (C := R_List) (T := F_List) (N := 3) hx hb hts i_List hown hK hP (gL_m hL ha (by decide)) (gE_7 (G := G) ha) rfl 1 (by decide) (hts _ k_104) (fun _ h9 => h9) (congrArg (fun z9 => some (Value.int (nI z9))) hs) d_List_grow_0_2 ?_
  refine lv_iconst (v := nI 1) hx hb d_List_grow_0_5 (by decide) ?_
  refine nv_iadd hx hb d_List_grow_0_6 ?_
  refine wd_q (cx := []) (wr := []) (pl := va_pl L (gE cO G)) (va_runV (As := [.int (nI (0 + 1))]) (rest := []) ⟨hx, hb, hml, hown, hts⟩ (p_List_grow_1E l dC dI cB cI cL cZ cC cO a (0 + 1) xs t0 _ hL ha hs h0 hxs (by omega)) (cwV 1 hts (good_V k_266 k_268 s_List_grow_1 k_7 k_269) rfl rfl rfl (by decide +kernel) ⟨Nat.le_of_ble_eq_true rfl, Nat.le_of_ble_eq_true rfl⟩) (wd_preV (ci := 4) (r := (R_List, F_List, 3)) hK hP hD hS hA hF hE [] (by decide) rfl rfl (pq_at (gL_m hL ha (by decide)) (gE_7 (G := G) ha))) rfl rfl hl.1 rfl (lv_room (Nat.le_of_ble_eq_true rfl)) d_List_grow_0_7 ⟨Nat.le_of_ble_eq_true rfl, Nat.le_of_ble_eq_true rfl⟩) hP hD hS hA [] [] rfl rfl (by decide) (by decide) (fun r_2 u H locs w_1 hP hD hS => ?_)
  have hP : va_P (dC, dI) cl ([] ++ va_pl (L ++ [u.1]) (gE cO u.2.1)) H := hP
  have hD : va_D A ([] ++ va_pl (L ++ [u.1]) (gE cO u.2.1)) := hD
  obtain ⟨r_2e, hu⟩ := w_1
  subst r_2e
  exact wr_a (r := some u.1) hx hb hr ⟨_, rfl⟩ hlocks u ⟨rfl, hu⟩ hK hP hD hS d_List_grow_0_10
set_option maxHeartbeats 4000000 in
set_option maxRecDepth 100000 in
/-- grow() of a full list -/
theorem p_List_grow_0A (l : Launch) (dC : Nat → ClassId) (dI : Nat → Nat → Nat) (cB cI cL cZ cC cO : ClassId) {L : List Nat} {G : PG} (a d n : Nat) (xs : List Nat) (t0 sz : Nat) (hL : gL L G) (h : LSd G a xs d n) (hfull : xs.length = n) (hn1 : 1 ≤ n) (hn2 : n ≤ 400) : Met l y_List_grow_0 w_List_grow_0 ({ frames := 4, cells := 1, slots := 600, locals := 240 }) (va_Pc [.ref a] (wB2 (dC, dI) cl [(cB, .byte), (cI, .int), (cL, .long), (cZ, .boolean), (cC, .char), (cO, .object "java/lang/Object")] sz t0 ([] ++ va_pl L (gE cO G)))) (va_Qq (fun (r : Option Nat) (u : Nat × PG × Nat) => (r = some u.1 ∧ u.1 ∉ L ∧ LSd u.2.1 a xs u.1 u.2.2 ∧ xs.length < u.2.2 ∧ gL (L ++ [u.1]) u.2.1 ∧ LF G u.2.1 a)) (fun u t => wA (dC, dI) cl [(cB, .byte), (cI, .int), (cL, .long), (cZ, .boolean), (cC, .char), (cO, .object "java/lang/Object")] (va_A ([] ++ va_pl L (gE cO G)) sz) ([] ++ va_pl (L ++ [u.1]) (gE cO u.2.1)) t) (va_A ([] ++ va_pl L (gE cO G)) sz)) 1 600 (va_A ([] ++ va_pl L (gE cO G)) sz) := by
  refine Met.ofW (cc := b_List_grow_0) (maxL := 1) (ret := (some (ClassFile.FieldType.array (ClassFile.FieldType.object "java/lang/Object")))) (by decide) rfl ?_
  intro p e s m args below meth c s₁ B hml hv
  obtain ⟨rfl, ⟨hsz, hP, hK, hD0, hF⟩, hE⟩ := hv
  have hx := B.exec
  have hb := B.bytes
  have hr := B.returns
  have hts := atoms_spec (ws := w_List_grow_0) B.pre
  have hts : ∀ w ∈ tb, w.before _ s = true := fun w h => hts w (List.mem_cons_of_mem _ h)
  have hown : s.vm.findClass R_List = some m.cls := findClass_of_methodNamed B.named
  have hlocks := B.notSynchronized
  subst hsz
  have hD := hD0.self (sz := s.heap.size)
  generalize hAe : va_A ([] ++ va_pl L (gE cO G)) s.heap.size = A at hD hF hE ⊢
  have hA : ∀ q : Nat, s.heap.size ≤ q → A q := fun q h => by rw [← hAe]; exact Or.inr h
  have hS : va_S A s.heap s.heap [] := va_S.rf
  have hP : va_P (dC, dI) cl ([] ++ va_pl L (gE cO G)) s.heap := hP
  have hl := lv_entry ([.ref a]) (n := 1) (Nat.le_of_ble_eq_true rfl)
  rw [lg_entry_eq]
  generalize (lg_sl ([.ref a]) ++ List.replicate (1 - (lg_sl ([.ref a])).length) Slot.unset).toArray = ls at hl ⊢
  have hl : lv_has ls 1 [(0, .ref a)] := hl
  refine lv_aload_n hx hb d_List_grow_0_0 rfl (lv_at hl 0 rfl) ?_
  refine lv_aload_n hx hb d_List_grow_0_1 rfl (lv_at hl 0 rfl) ?_
  refine pq_get (D := (dC, dI)) (ci := 4) (v := .int (nI xs.length)) (C := R_List) (T := F_List) (N := 3) hx hb hts i_List hown hK hP (gL_m hL h.1 (by decide)) (gE_7 (G := G) h.1) rfl 1 (by decide) (hts _ k_104) (fun _ h9 => h9) (congrArg (fun z9 => some (Value.int (nI z9))) h.2.1) d_List_grow_0_2 ?_
  refine lv_iconst (v := nI 1) hx hb d_List_grow_0_5 (by decide) ?_
  refine nv_iadd hx hb d_List_grow_0_6 ?_
  refine wd_q (cx := []) (wr := []) (pl := va_pl L (gE cO G)) (va_runV (As := [.int (nI (xs.length + 1))]) (rest := []) ⟨hx, hb, hml, hown, hts⟩ (p_List_grow_1A l dC dI cB cI cL cZ cC cO a (xs.length + 1) d n xs t0 _ hL h hfull hn1 hn2 (by omega)) (cwV 1 hts (good_V k_266 k_268 s_List_grow_1 k_7 k_269) rfl rfl rfl (by decide +kernel) ⟨Nat.le_of_ble_eq_true rfl, Nat.le_of_ble_eq_true rfl⟩) (wd_preV (ci := 4) (r := (R_List, F_List, 3)) hK hP hD hS hA hF hE [] (by decide) rfl rfl (pq_at (gL_m hL h.1 (by decide)) (gE_7 (G := G) h.1))) rfl rfl hl.1 rfl (lv_room (Nat.le_of_ble_eq_true rfl)) d_List_grow_0_7 ⟨Nat.le_of_ble_eq_true rfl, Nat.le_of_ble_eq_true rfl⟩) hP hD hS hA [] [] rfl rfl (by decide) (by decide) (fun r_2 u H locs w_1 hP hD hS => ?_)
  have hP : va_P (dC, dI) cl ([] ++ va_pl (L ++ [u.1]) (gE cO u.2.1)) H := hP
  have hD : va_D A ([] ++ va_pl (L ++ [u.1]) (gE cO u.2.1)) := hD
  obtain ⟨r_2e, hu⟩ := w_1
  subst r_2e
  exact wr_a (r := some u.1) hx hb hr ⟨_, rfl⟩ hlocks u ⟨rfl, hu⟩ hK hP hD hS d_List_grow_0_10
theorem d_List_add_1_0 : decode b_List_add_1 0 = .ok (.iload_n 3, 1) := by decide +kernel
theorem d_List_add_1_1 : decode b_List_add_1 1 = .ok (.aload_n 2, 1) := by decide +kernel
theorem d_List_add_1_2 : decode b_List_add_1 2 = .ok (.arraylength, 1) := by decide +kernel
theorem d_List_add_1_3 : decode b_List_add_1 3 = .ok (.if_icmp .ne 8, 3) := by decide +kernel
theorem d_List_add_1_6 : decode b_List_add_1 6 = .ok (.aload_n 0, 1) := by decide +kernel
theorem d_List_add_1_7 : decode b_List_add_1 7 = .ok (.invokevirtual 129, 3) := by decide +kernel
theorem d_List_add_1_10 : decode b_List_add_1 10 = .ok (.astore_n 2, 1) := by decide +kernel
theorem d_List_add_1_11 : decode b_List_add_1 11 = .ok (.aload_n 2, 1) := by decide +kernel
theorem d_List_add_1_12 : decode b_List_add_1 12 = .ok (.iload_n 3, 1) := by decide +kernel
theorem d_List_add_1_13 : decode b_List_add_1 13 = .ok (.aload_n 1, 1) := by decide +kernel
theorem d_List_add_1_14 : decode b_List_add_1 14 = .ok (.aastore, 1) := by decide +kernel
theorem d_List_add_1_15 : decode b_List_add_1 15 = .ok (.aload_n 0, 1) := by decide +kernel
theorem d_List_add_1_16 : decode b_List_add_1 16 = .ok (.iload_n 3, 1) := by decide +kernel
theorem d_List_add_1_17 : decode b_List_add_1 17 = .ok (.iconst 1, 1) := by decide +kernel
theorem d_List_add_1_18 : decode b_List_add_1 18 = .ok (.iadd, 1) := by decide +kernel
theorem d_List_add_1_19 : decode b_List_add_1 19 = .ok (.putfield 48, 3) := by decide +kernel
theorem d_List_add_1_22 : decode b_List_add_1 22 = .ok (.return_, 1) := by decide +kernel
theorem LF.kd {G G' : PG} {a y : Nat} (h : LF G G' a) (ha : G.1 a = 7) (hy : 0 < G.1 y ∧ G.1 y < 7) : gs G G' y := h y (by omega) (fun e => by rw [e, ha] at hy; omega) (fun e => by omega)
set_option maxHeartbeats 4000000 in
set_option maxRecDepth 100000 in
/-- add(e, array, size) -/
theorem p_List_add_1 (l : Launch) (dC : Nat → ClassId) (dI : Nat → Nat → Nat) (cB cI cL cZ cC cO : ClassId) {L : List Nat} {G : PG} (a y d0 : Nat) (xs : List Nat) (t0 sz : Nat) (hL : gL L G) (h : LSx t0 G a xs) (h0 : G.2.2.2.2.2 a 0 = some d0) (hy : 0 < G.1 y ∧ G.1 y < 7) (hcap : xs.length ≤ 400) : Met l y_List_add_1 w_List_add_1 ({ frames := 5, cells := 1, slots := 600, locals := 300 }) (va_Pc [.ref a, .ref y, .ref d0, .int (nI xs.length)] (wB2 (dC, dI) cl [(cB, .byte), (cI, .int), (cL, .long), (cZ, .boolean), (cC, .char), (cO, .object "java/lang/Object")] sz t0 ([] ++ va_pl L (gE cO G)))) (va_Qv (fun (u : List Nat × PG) => LSx t0 u.2 a (xs ++ [y]) ∧ gL u.1 u.2 ∧ LF G u.2 a) (fun u t => wA (dC, dI) cl [(cB, .byte), (cI, .int), (cL, .long), (cZ, .boolean), (cC, .char), (cO, .object "java/lang/Object")] (va_A ([] ++ va_pl L (gE cO G)) sz) ([] ++ va_pl u.1 (gE cO u.2)) t) (va_A ([] ++ va_pl L (gE cO G)) sz)) 1 600 (va_A ([] ++ va_pl L (gE cO G)) sz) := by
  refine Met.ofW (cc := b_List_add_1) (maxL := 4) (ret := none) (by decide) rfl ?_
  intro p e s m args below meth c s₁ B hml hv
  obtain ⟨rfl, ⟨hsz, hP, hK, hD0, hF⟩, hE⟩ := hv
  have hx := B.exec
  have hb := B.bytes
  have hr := B.returns
  have hts := atoms_spec (ws := w_List_add_1) B.pre
  have hts : ∀ w ∈ tb, w.before _ s = true := fun w h => hts w (List.mem_cons_of_mem _ h)
  have hown : s.vm.findClass R_List = some m.cls := findClass_of_methodNamed B.named
  have hlocks := B.notSynchronized
  subst hsz
  have hD := hD0.self (sz := s.heap.size)
  generalize hAe : va_A ([] ++ va_pl L (gE cO G)) s.heap.size = A at hD hF hE ⊢
  have hA : ∀ q : Nat, s.heap.size ≤ q → A q := fun q h => by rw [← hAe]; exact Or.inr h
  have hS : va_S A s.heap s.heap [] := va_S.rf
  have hP : va_P (dC, dI) cl ([] ++ va_pl L (gE cO G)) s.heap := hP
  have hl := lv_entry ([.ref a, .ref y, .ref d0, .int (nI xs.length)]) (n := 4) (Nat.le_of_ble_eq_true rfl)
  rw [lg_entry_eq]
  generalize (lg_sl ([.ref a, .ref y, .ref d0, .int (nI xs.length)]) ++ List.replicate (4 - (lg_sl ([.ref a, .ref y, .ref d0, .int (nI xs.length)])).length) Slot.unset).toArray = ls at hl ⊢
  have hl : lv_has ls 4 [(0, .ref a), (1, .ref y), (2, .ref d0), (3, .int (nI xs.length))] := hl
  rcases h with ⟨ha, hs, h0', hxs⟩ | ⟨d, n, h⟩
  · subst hxs
    have hd0 : t0 = d0 := Option.some.inj (h0'.symm.trans h0)
    subst hd0
    have hl : lv_has ls 4 [(0, .ref a), (1, .ref y), (2, .ref t0), (3, .int (nI (([] : List Nat).length)))] := hl
    refine lv_iload_n hx hb d_List_add_1_0 rfl (lv_at hl 3 rfl) ?_
    refine lv_aload_n hx hb d_List_add_1_1 rfl (lv_at hl 2 rfl) ?_
    refine va_tlen (v := nI 0) hx hb hE.2.1 hS rfl d_List_add_1_2 ?_
    refine nv_icmp_ne (tgt := 11) hx hb (by omega) (by omega) d_List_add_1_3 (by decide) (fun c_1 => ?_) (fun c_1 => ?_)
    · exact absurd rfl c_1
    · refine lv_aload_n hx hb d_List_add_1_6 rfl (lv_at hl 0 rfl) ?_
      refine wd_q (cx := []) (wr := []) (pl := va_pl L (gE cO G)) (va_runV (As := []) (rest := []) ⟨hx, hb, hml, hown, hts⟩ (p_List_grow_0E l dC dI cB cI cL cZ cC cO a [] t0 _ hL ha hs h0' rfl) (cwV 0 hts (good_V k_262 k_264 s_List_grow_0 k_7 k_265) rfl rfl rfl (by decide +kernel) ⟨Nat.le_of_ble_eq_true rfl, Nat.le_of_ble_eq_true rfl⟩) (wd_preV (ci := 4) (r := (R_List, F_List, 3)) hK hP hD hS hA hF hE [] (by decide) rfl rfl (pq_at (gL_m hL ha (by decide)) (gE_7 (G := G) ha))) rfl rfl hl.1 rfl (lv_room (Nat.le_of_ble_eq_true rfl)) d_List_add_1_7 ⟨Nat.le_of_ble_eq_true rfl, Nat.le_of_ble_eq_true rfl⟩) hP hD hS hA [] [] rfl rfl (by decide) (by decide) (fun r_3 u H locs w_2 hP hD hS => ?_)
      have hP : va_P (dC, dI) cl ([] ++ va_pl (L ++ [u.1]) (gE cO u.2.1)) H := hP
      have hD : va_D A ([] ++ va_pl (L ++ [u.1]) (gE cO u.2.1)) := hD
      obtain ⟨r_3e, hu⟩ := w_2
      subst r_3e
      have hy2 : 0 < u.2.1.1 y ∧ u.2.1.1 y < 7 := by rw [(hu.2.2.2.2.kd ha hy).1]; exact hy
      have hl9 := hu.2.2.1
      have hc9 := hu.2.1.2.2.2.2.2.1
      have hL := hu.2.2.2.1
      refine lv_astore_n (lv' := [(2, .ref u.1), (0, .ref a), (1, .ref y), (3, .int (nI (([] : List Nat).length)))]) hx hb d_List_add_1_10 rfl hl (by decide) rfl (fun ls hl => ?_)
      refine lv_aload_n hx hb d_List_add_1_11 rfl (lv_at hl 0 rfl) ?_
      refine lv_iload_n hx hb d_List_add_1_12 rfl (lv_at hl 3 rfl) ?_
      refine lv_aload_n hx hb d_List_add_1_13 rfl (lv_at hl 2 rfl) ?_
      refine pq_astM hx hb hK hP hD hS (gL_m hL hu.2.1.2.2.2.1 (by omega)) (gE_8 (G := u.2.1) hu.2.1.2.2.2.1) 5 rfl (pq_any hK hP hF hL hy2) (by omega) (by omega) (uE_8 (G := u.2.1) hu.2.1.2.2.2.1) d_List_add_1_14 (fun H locs hP hD hS => ?_)
      have hP : va_P (dC, dI) cl ([] ++ va_pl (L ++ [u.1]) (gE cO (gR u.2.1 u.1 (([] : List Nat).length) (some y)))) H := hP
      have hD : va_D A ([] ++ va_pl (L ++ [u.1]) (gE cO (gR u.2.1 u.1 (([] : List Nat).length) (some y)))) := hD
      refine lv_aload_n hx hb d_List_add_1_15 rfl (lv_at hl 1 rfl) ?_
      refine lv_iload_n hx hb d_List_add_1_16 rfl (lv_at hl 3 rfl) ?_
      refine lv_iconst (v := nI 1) hx hb d_List_add_1_17 (by decide) ?_
      refine nv_iadd hx hb d_List_add_1_18 ?_
      refine pq_put (D := (dC, dI)) (ci := 4) (v := .int (nI ((([] : List Nat).length) + 1))) (ty := .int) (C := R_List) (T := F_List) (N := 3) hx hb hts i_List t_List t_List_ok n_List hown hK hP hD hS (gL_m hL hu.2.1.1 (by decide)) (gE_7 (G := (gR u.2.1 u.1 (([] : List Nat).length) (some y))) hu.2.1.1) rfl 1 (by decide) (hts _ k_104) (fun _ h9 => h9) rfl (by decide +kernel) rfl rfl (Nat.le_of_ble_eq_true rfl) (uE_7_1 (G := (gR u.2.1 u.1 (([] : List Nat).length) (some y))) (v := (([] : List Nat).length) + 1) hu.2.1.1) d_List_add_1_19 (fun H locs hP hD hS => ?_)
      have hP : va_P (dC, dI) cl ([] ++ va_pl (L ++ [u.1]) (gE cO (gN (gR u.2.1 u.1 (([] : List Nat).length) (some y)) a 1 ((([] : List Nat).length) + 1)))) H := hP
      have hD : va_D A ([] ++ va_pl (L ++ [u.1]) (gE cO (gN (gR u.2.1 u.1 (([] : List Nat).length) (some y)) a 1 ((([] : List Nat).length) + 1)))) := hD
      obtain ⟨z1, z2⟩ := LSd_psh hu.2.1 hu.2.2.1 hy2
      exact wr_v hx hb hr hlocks (L ++ [u.1], gN (gR u.2.1 u.1 (([] : List Nat).length) (some y)) a 1 ((([] : List Nat).length) + 1)) ⟨Or.inr ⟨u.1, u.2.2, z1⟩, hu.2.2.2.1, hu.2.2.2.2.tr z2⟩ hK hP hD hS d_List_add_1_22
  · have hdd : d0 = d := Option.some.inj (h0.symm.trans h.2.2.1)
    subst hdd
    have hd := h.2.2.2.1
    have ha := h.1
    have h6 := h.2.2.2.2.2.1
    have h5 := h.2.2.2.2.1
    refine lv_iload_n hx hb d_List_add_1_0 rfl (lv_at hl 3 rfl) ?_
    refine lv_aload_n hx hb d_List_add_1_1 rfl (lv_at hl 2 rfl) ?_
    refine pq_alen (n := n) hx hb hK hP (gL_m hL hd (by omega)) (gE_8 (G := G) hd) 5 rfl d_List_add_1_2 ?_
    refine nv_icmp_ne (tgt := 11) hx hb (by omega) (by omega) d_List_add_1_3 (by decide) (fun c_4 => ?_) (fun c_4 => ?_)
    · have hlt : xs.length < n := by omega
      refine lv_aload_n hx hb d_List_add_1_11 rfl (lv_at hl 2 rfl) ?_
      refine lv_iload_n hx hb d_List_add_1_12 rfl (lv_at hl 3 rfl) ?_
      refine lv_aload_n hx hb d_List_add_1_13 rfl (lv_at hl 1 rfl) ?_
      refine pq_astM hx hb hK hP hD hS (gL_m hL hd (by omega)) (gE_8 (G := G) hd) 5 rfl (pq_any hK hP hF hL hy) (by omega) (by omega) (uE_8 (G := G) hd) d_List_add_1_14 (fun H locs hP hD hS => ?_)
      have hP : va_P (dC, dI) cl ([] ++ va_pl L (gE cO (gR G d0 xs.length (some y)))) H := hP
      have hD : va_D A ([] ++ va_pl L (gE cO (gR G d0 xs.length (some y)))) := hD
      refine lv_aload_n hx hb d_List_add_1_15 rfl (lv_at hl 0 rfl) ?_
      refine lv_iload_n hx hb d_List_add_1_16 rfl (lv_at hl 3 rfl) ?_
      refine lv_iconst (v := nI 1) hx hb d_List_add_1_17 (by decide) ?_
      refine nv_iadd hx hb d_List_add_1_18 ?_
      refine pq_put (D := (dC, dI)) (ci := 4) (v := .int (nI (xs.length + 1))) (ty := .int) (C := R_List) (T := F_List) (N := 3) hx hb hts i_List t_List t_List_ok n_List hown hK hP hD hS (gL_m hL ha (by decide)) (gE_7 (G := (gR G d0 xs.length (some y))) ha) rfl 1 (by decide) (hts _ k_104) (fun _ h9 => h9) rfl (by decide +kernel) rfl rfl (Nat.le_of_ble_eq_true rfl) (uE_7_1 (G := (gR G d0 xs.length (some y))) (v := xs.length + 1) ha) d_List_add_1_19 (fun H locs hP hD hS => ?_)
      have hP : va_P (dC, dI) cl ([] ++ va_pl L (gE cO (gN (gR G d0 xs.length (some y)) a 1 (xs.length + 1)))) H := hP
      have hD : va_D A ([] ++ va_pl L (gE cO (gN (gR G d0 xs.length (some y)) a 1 (xs.length + 1)))) := hD
      refine W.widen (k := 1) (n := 600) (by omega) (by omega) ?_
      obtain ⟨z1, z2⟩ := LSd_psh h (by omega) hy
      exact wr_v hx hb hr hlocks (L, gN (gR G d0 xs.length (some y)) a 1 (xs.length + 1)) ⟨Or.inr ⟨d0, n, z1⟩, hL, z2⟩ hK hP hD hS d_List_add_1_22
    · refine lv_aload_n hx hb d_List_add_1_6 rfl (lv_at hl 0 rfl) ?_
      refine wd_q (cx := []) (wr := []) (pl := va_pl L (gE cO G)) (va_runV (As := []) (rest := []) ⟨hx, hb, hml, hown, hts⟩ (p_List_grow_0A l dC dI cB cI cL cZ cC cO a d0 n xs t0 _ hL h (by omega) (by omega) (by omega)) (cwV 0 hts (good_V k_262 k_264 s_List_grow_0 k_7 k_265) rfl rfl rfl (by decide +kernel) ⟨Nat.le_of_ble_eq_true rfl, Nat.le_of_ble_eq_true rfl⟩) (wd_preV (ci := 4) (r := (R_List, F_List, 3)) hK hP hD hS hA hF hE [] (by decide) rfl rfl (pq_at (gL_m hL ha (by decide)) (gE_7 (G := G) ha))) rfl rfl hl.1 rfl (lv_room (Nat.le_of_ble_eq_true rfl)) d_List_add_1_7 ⟨Nat.le_of_ble_eq_true rfl, Nat.le_of_ble_eq_true rfl⟩) hP hD hS hA [] [] rfl rfl (by decide) (by decide) (fun r_6 u H locs w_5 hP hD hS => ?_)
      have hP : va_P (dC, dI) cl ([] ++ va_pl (L ++ [u.1]) (gE cO u.2.1)) H := hP
      have hD : va_D A ([] ++ va_pl (L ++ [u.1]) (gE cO u.2.1)) := hD
      obtain ⟨r_6e, hu⟩ := w_5
      subst r_6e
      have hy2 : 0 < u.2.1.1 y ∧ u.2.1.1 y < 7 := by rw [(hu.2.2.2.2.kd ha hy).1]; exact hy
      have hl9 := hu.2.2.1
      have hc9 := hu.2.1.2.2.2.2.2.1
      have hL := hu.2.2.2.1
      refine lv_astore_n (lv' := [(2, .ref u.1), (0, .ref a), (1, .ref y), (3, .int (nI xs.length))]) hx hb d_List_add_1_10 rfl hl (by decide) rfl (fun ls hl => ?_)
      refine lv_aload_n hx hb d_List_add_1_11 rfl (lv_at hl 0 rfl) ?_
      refine lv_iload_n hx hb d_List_add_1_12 rfl (lv_at hl 3 rfl) ?_
      refine lv_aload_n hx hb d_List_add_1_13 rfl (lv_at hl 2 rfl) ?_
      refine pq_astM hx hb hK hP hD hS (gL_m hL hu.2.1.2.2.2.1 (by omega)) (gE_8 (G := u.2.1) hu.2.1.2.2.2.1) 5 rfl (pq_any hK hP hF hL hy2) (by omega) (by omega) (uE_8 (G := u.2.1) hu.2.1.2.2.2.1) d_List_add_1_14 (fun H locs hP hD hS => ?_)
      have hP : va_P (dC, dI) cl ([] ++ va_pl (L ++ [u.1]) (gE cO (gR u.2.1 u.1 xs.length (some y)))) H := hP
      have hD : va_D A ([] ++ va_pl (L ++ [u.1]) (gE cO (gR u.2.1 u.1 xs.length (some y)))) := hD
      refine lv_aload_n hx hb d_List_add_1_15 rfl (lv_at hl 1 rfl) ?_
      refine lv_iload_n hx hb d_List_add_1_16 rfl (lv_at hl 3 rfl) ?_
      refine lv_iconst (v := nI 1) hx hb d_List_add_1_17 (by decide) ?_
      refine nv_iadd hx hb d_List_add_1_18 ?_
      refine pq_put (D := (dC, dI)) (ci := 4) (v := .int (nI (xs.length + 1))) (ty := .int) (C := R_List) (T := F_List) (N := 3) hx hb hts i_List t_List t_List_ok n_List hown hK hP hD hS (gL_m hL hu.2.1.1 (by decide)) (gE_7 (G := (gR u.2.1 u.1 xs.length (some y))) hu.2.1.1) rfl 1 (by decide) (hts _ k_104) (fun _ h9 => h9) rfl (by decide +kernel) rfl rfl (Nat.le_of_ble_eq_true rfl) (uE_7_1 (G := (gR u.2.1 u.1 xs.length (some y))) (v := xs.length + 1) hu.2.1.1) d_List_add_1_19 (fun H locs hP hD hS => ?_)
      have hP : va_P (dC, dI) cl ([] ++ va_pl (L ++ [u.1]) (gE cO (gN (gR u.2.1 u.1 xs.length (some y)) a 1 (xs.length + 1)))) H := hP
      have hD : va_D A ([] ++ va_pl (L ++ [u.1]) (gE cO (gN (gR u.2.1 u.1 xs.length (some y)) a 1 (xs.length + 1)))) := hD
      obtain ⟨z1, z2⟩ := LSd_psh hu.2.1 hu.2.2.1 hy2
      exact wr_v hx hb hr hlocks (L ++ [u.1], gN (gR u.2.1 u.1 xs.length (some y)) a 1 (xs.length + 1)) ⟨Or.inr ⟨u.1, u.2.2, z1⟩, hu.2.2.2.1, hu.2.2.2.2.tr z2⟩ hK hP hD hS d_List_add_1_22
theorem d_List_add_0_0 : decode b_List_add_0 0 = .ok (.aload_n 0, 1) := by decide +kernel
theorem d_List_add_0_1 : decode b_List_add_0 1 = .ok (.dup, 1) := by decide +kernel
theorem d_List_add_0_2 : decode b_List_add_0 2 = .ok (.getfield 63, 3) := by decide +kernel
theorem d_List_add_0_5 : decode b_List_add_0 5 = .ok (.iconst 1, 1) := by decide +kernel
theorem d_List_add_0_6 : decode b_List_add_0 6 = .ok (.iadd, 1) := by decide +kernel
theorem d_List_add_0_7 : decode b_List_add_0 7 = .ok (.putfield 63, 3) := by decide +kernel
theorem d_List_add_0_10 : decode b_List_add_0 10 = .ok (.aload_n 0, 1) := by decide +kernel
theorem d_List_add_0_11 : decode b_List_add_0 11 = .ok (.aload_n 1, 1) := by decide +kernel
theorem d_List_add_0_12 : decode b_List_add_0 12 = .ok (.aload_n 0, 1) := by decide +kernel
theorem d_List_add_0_13 : decode b_List_add_0 13 = .ok (.getfield 9, 3) := by decide +kernel
theorem d_List_add_0_16 : decode b_List_add_0 16 = .ok (.aload_n 0, 1) := by decide +kernel
theorem d_List_add_0_17 : decode b_List_add_0 17 = .ok (.getfield 48, 3) := by decide +kernel
theorem d_List_add_0_20 : decode b_List_add_0 20 = .ok (.invokevirtual 131, 3) := by decide +kernel
theorem d_List_add_0_23 : decode b_List_add_0 23 = .ok (.iconst 1, 1) := by decide +kernel
theorem d_List_add_0_24 : decode b_List_add_0 24 = .ok (.ireturn, 1) := by decide +kernel
theorem LSx.mod {t0 : Nat} {G : PG} {a v : Nat} {xs : List Nat} (h : LSx t0 G a xs) : LSx t0 (gN G a 2 v) a xs ∧ LF G (gN G a 2 v) a := by
  refine ⟨?_, fun b _ hb _ => gs_N hb⟩
  rcases h with ⟨h1, h2, h3, h4⟩ | ⟨d, n, h1, h2, h3, h4, h5, h6, h7, h8, h9⟩
  · exact Or.inl ⟨h1, by show up2 G.2.1 a 2 v a 1 = 0; rw [up2_k _ _ _ _ (by decide)]; exact h2, h3, h4⟩
  · exact Or.inr ⟨d, n, h1, by show up2 G.2.1 a 2 v a 1 = xs.length; rw [up2_k _ _ _ _ (by decide)]; exact h2, h3, h4, h5, h6, by show up2 G.2.1 a 2 v d 9 = a; rw [up2_k _ _ _ _ (by decide)]; exact h7, h8, h9⟩
theorem LSx.d0 {t0 : Nat} {G : PG} {a : Nat} {xs : List Nat} (h : LSx t0 G a xs) : ∃ d, G.2.2.2.2.2 a 0 = some d := by
  rcases h with ⟨h1, h2, h3, h4⟩ | ⟨d, n, h1, h2, h3, h4, h5, h6, h7, h8, h9⟩
  · exact ⟨t0, h3⟩
  · exact ⟨d, h3⟩
set_option maxHeartbeats 4000000 in
set_option maxRecDepth 100000 in
/-- add(e) -/
theorem p_List_add (l : Launch) (dC : Nat → ClassId) (dI : Nat → Nat → Nat) (cB cI cL cZ cC cO : ClassId) {L : List Nat} {G : PG} (a y : Nat) (xs : List Nat) (t0 sz : Nat) (hL : gL L G) (h : LSx t0 G a xs) (hy : 0 < G.1 y ∧ G.1 y < 7) (hcap : xs.length ≤ 400) : Met l y_List_add_0 w_List_add_0 ({ frames := 6, cells := 1, slots := 600, locals := 360 }) (va_Pc [.ref a, .ref y] (wB2 (dC, dI) cl [(cB, .byte), (cI, .int), (cL, .long), (cZ, .boolean), (cC, .char), (cO, .object "java/lang/Object")] sz t0 ([] ++ va_pl L (gE cO G)))) (va_Qi (fun (r : Int32) (u : List Nat × PG) => r = bI true ∧ LSx t0 u.2 a (xs ++ [y]) ∧ gL u.1 u.2 ∧ LF G u.2 a) (fun u t => wA (dC, dI) cl [(cB, .byte), (cI, .int), (cL, .long), (cZ, .boolean), (cC, .char), (cO, .object "java/lang/Object")] (va_A ([] ++ va_pl L (gE cO G)) sz) ([] ++ va_pl u.1 (gE cO u.2)) t) (va_A ([] ++ va_pl L (gE cO G)) sz)) 1 600 (va_A ([] ++ va_pl L (gE cO G)) sz) := by
  refine Met.ofW (cc := b_List_add_0) (maxL := 2) (ret := (some ClassFile.FieldType.boolean)) (by decide) rfl ?_
  intro p e s m args below meth c s₁ B hml hv
  obtain ⟨rfl, ⟨hsz, hP, hK, hD0, hF⟩, hE⟩ := hv
  have hx := B.exec
  have hb := B.bytes
  have hr := B.returns
  have hts := atoms_spec (ws := w_List_add_0) B.pre
  have hts : ∀ w ∈ tb, w.before _ s = true := fun w h => hts w (List.mem_cons_of_mem _ h)
  have hown : s.vm.findClass R_List = some m.cls := findClass_of_methodNamed B.named
  have hlocks := B.notSynchronized
  subst hsz
  have hD := hD0.self (sz := s.heap.size)
  generalize hAe : va_A ([] ++ va_pl L (gE cO G)) s.heap.size = A at hD hF hE ⊢
  have hA : ∀ q : Nat, s.heap.size ≤ q → A q := fun q h => by rw [← hAe]; exact Or.inr h
  have hS : va_S A s.heap s.heap [] := va_S.rf
  have hP : va_P (dC, dI) cl ([] ++ va_pl L (gE cO G)) s.heap := hP
  have hl := lv_entry ([.ref a, .ref y]) (n := 2) (Nat.le_of_ble_eq_true rfl)
  rw [lg_entry_eq]
  generalize (lg_sl ([.ref a, .ref y]) ++ List.replicate (2 - (lg_sl ([.ref a, .ref y])).length) Slot.unset).toArray = ls at hl ⊢
  have hl : lv_has ls 2 [(0, .ref a), (1, .ref y)] := hl
  obtain ⟨d0, h0⟩ := h.d0
  refine lv_aload_n hx hb d_List_add_0_0 rfl (lv_at hl 0 rfl) ?_
  refine lv_dup hx hb d_List_add_0_1 rfl ?_
  refine pq_get (D := (dC, dI)) (ci := 4) (v := .int (nI (G.2.1 a 2))) (C := R_List) (T := F_List) (N := 3) hx hb hts i_List hown hK hP (gL_m hL h.k.1 (by decide)) (gE_7 (G := G) h.k.1) rfl 2 (by decide) (hts _ k_106) (fun x9 h9 => u_same (hts _ k_107) x9 h9) rfl d_List_add_0_2 ?_
  refine lv_iconst (v := nI 1) hx hb d_List_add_0_5 (by decide) ?_
  refine nv_iadd hx hb d_List_add_0_6 ?_
  refine pq_put (D := (dC, dI)) (ci := 4) (v := .int (nI ((G.2.1 a 2) + 1))) (ty := .int) (C := R_List) (T := F_List) (N := 3) hx hb hts i_List t_List t_List_ok n_List hown hK hP hD hS (gL_m hL h.k.1 (by decide)) (gE_7 (G := G) h.k.1) rfl 2 (by decide) (hts _ k_106) (fun x9 h9 => u_same (hts _ k_107) x9 h9) rfl (by decide +kernel) rfl rfl (Nat.le_of_ble_eq_true rfl) (uE_7_2 (G := G) (v := (G.2.1 a 2) + 1) h.k.1) d_List_add_0_7 (fun H locs hP hD hS => ?_)
  have hP : va_P (dC, dI) cl ([] ++ va_pl L (gE cO (gN G a 2 ((G.2.1 a 2) + 1)))) H := hP
  have hD : va_D A ([] ++ va_pl L (gE cO (gN G a 2 ((G.2.1 a 2) + 1)))) := hD
  refine lv_aload_n hx hb d_List_add_0_10 rfl (lv_at hl 0 rfl) ?_
  refine lv_aload_n hx hb d_List_add_0_11 rfl (lv_at hl 1 rfl) ?_
  refine lv_aload_n hx hb d_List_add_0_12 rfl (lv_at hl 0 rfl) ?_
  refine pq_get (D := (dC, dI)) (ci := 4) (v := .ref d0) (C := R_List) (T := F_List) (N := 3) hx hb hts i_List hown hK hP (gL_m hL h.k.1 (by decide)) (gE_7 (G := (gN G a 2 ((G.2.1 a 2) + 1))) h.k.1) rfl 0 (by decide) (hts _ k_103) (fun _ h9 => h9) (congrArg (fun z9 => some (va_rf z9)) h0) d_List_add_0_13 ?_
  refine lv_aload_n hx hb d_List_add_0_16 rfl (lv_at hl 0 rfl) ?_
  refine pq_get (D := (dC, dI)) (ci := 4) (v := .int (nI xs.length)) (C := R_List) (T := F_List) (N := 3) hx hb hts i_List hown hK hP (gL_m hL h.k.1 (by decide)) (gE_7 (G := (gN G a 2 ((G.2.1 a 2) + 1))) h.k.1) rfl 1 (by decide) (hts _ k_104) (fun _ h9 => h9) (congrArg (fun z9 => some (Value.int (nI z9))) ((up2_k _ _ _ _ (by decide)).trans h.k.2)) d_List_add_0_17 ?_
  refine wd_v (cx := []) (wr := []) (pl := va_pl L (gE cO (gN G a 2 ((G.2.1 a 2) + 1)))) (va_runV (As := [.ref y, .ref d0, .int (nI xs.length)]) (rest := []) ⟨hx, hb, hml, hown, hts⟩ (p_List_add_1 l dC dI cB cI cL cZ cC cO (G := gN G a 2 ((G.2.1 a 2) + 1)) a y d0 xs t0 _ hL h.mod.1 h0 hy hcap) (cwV 3 hts (good_V k_258 k_260 s_List_add_1 k_7 k_261) rfl rfl rfl (by decide +kernel) ⟨Nat.le_of_ble_eq_true rfl, Nat.le_of_ble_eq_true rfl⟩) (wd_preV (ci := 4) (r := (R_List, F_List, 3)) hK hP hD hS hA hF hE [] (by decide) rfl rfl (pq_at (gL_m hL h.k.1 (by decide)) (gE_7 (G := (gN G a 2 ((G.2.1 a 2) + 1))) h.k.1))) rfl rfl hl.1 rfl (lv_room (Nat.le_of_ble_eq_true rfl)) d_List_add_0_20 ⟨Nat.le_of_ble_eq_true rfl, Nat.le_of_ble_eq_true rfl⟩) hP hD hS hA [] [] rfl rfl (by decide) (by decide) (fun u H locs w_1 hP hD hS => ?_)
  have hP : va_P (dC, dI) cl ([] ++ va_pl u.1 (gE cO u.2)) H := hP
  have hD : va_D A ([] ++ va_pl u.1 (gE cO u.2)) := hD
  have hu := w_1
  refine lv_iconst (v := nI 1) hx hb d_List_add_0_23 (by decide) ?_
  exact wr_z (x := true) hx hb hr hlocks u ⟨rfl, hu.1, hu.2.1, h.mod.2.tr hu.2.2⟩ hK hP hD hS d_List_add_0_24
