theorem rf_n (r : Option Nat) : va_rf r = .null ∨ ∃ a, va_rf r = .ref a := va_rf_or r
set_option maxHeartbeats 4000000 in
set_option maxRecDepth 100000 in
/-- new Name(h, t, place) -/
theorem p_Name_init (l : Launch) (dC : Nat → ClassId) (dI : Nat → Nat → Nat) (cB cI cL cZ cC cO : ClassId) {L : List Nat} {G : PG} (a : Nat) (hh tt : Int64) (pl : Option Nat) (t0 sz : Nat) (hL : gL L G) (ha : G.1 a = 1) : Met l y_Name_init w_Name_init ({ frames := 1, cells := 0, slots := 0, locals := 30 }) (va_Pc [.ref a, .long hh, .long tt, .int (oI pl)] (wB2 (dC, dI) cl [(cB, .byte), (cI, .int), (cL, .long), (cZ, .boolean), (cC, .char), (cO, .object "java/lang/Object")] sz t0 ([] ++ va_pl L (gE cO G)))) (va_Qv (fun (u : Unit) => True) (fun _ t => wA (dC, dI) cl [(cB, .byte), (cI, .int), (cL, .long), (cZ, .boolean), (cC, .char), (cO, .object "java/lang/Object")] (va_A ([] ++ va_pl L (gE cO G)) sz) ([] ++ va_pl L (gE cO (gO (gJ (gJ G a 0 hh) a 1 tt) a 2 pl))) t) (va_A ([] ++ va_pl L (gE cO G)) sz)) 0 0 (va_A ([] ++ va_pl L (gE cO G)) sz) := by
  refine Met.ofW (cc := b_Name_init) (maxL := 6) (ret := none) (by decide) rfl ?_
  intro p e s m args below meth c s₁ B hml hv
  obtain ⟨rfl, ⟨hsz, hP, hK, hD0, hF⟩, hE⟩ := hv
  have hx := B.exec
  have hb := B.bytes
  have hr := B.returns
  have hts := atoms_spec (ws := w_Name_init) B.pre
  have hts : ∀ w ∈ tb, w.before _ s = true := fun w h => hts w (List.mem_cons_of_mem _ h)
  have hown : s.vm.findClass R_Name = some m.cls := findClass_of_methodNamed B.named
  have hlocks := B.notSynchronized
  have hin : meth.name = "<init>" := (name_of_methodNamed B.named B.method).1
  subst hsz
  have hD := hD0.self (sz := s.heap.size)
  generalize hAe : va_A ([] ++ va_pl L (gE cO G)) s.heap.size = A at hD hF hE ⊢
  have hA : ∀ q : Nat, s.heap.size ≤ q → A q := fun q h => by rw [← hAe]; exact Or.inr h
  have hS : va_S A s.heap s.heap [] := va_S.rf
  have hP : va_P (dC, dI) cl ([] ++ va_pl L (gE cO G)) s.heap := hP
  have hl := lv_entry ([.ref a, .long hh, .long tt, .int (oI pl)]) (n := 6) (Nat.le_of_ble_eq_true rfl)
  rw [lg_entry_eq]
  generalize (lg_sl ([.ref a, .long hh, .long tt, .int (oI pl)]) ++ List.replicate (6 - (lg_sl ([.ref a, .long hh, .long tt, .int (oI pl)])).length) Slot.unset).toArray = ls at hl ⊢
  have hl : lv_has ls 6 [(0, .ref a), (1, .long hh), (3, .long tt), (5, .int (oI pl))] := hl
  refine lv_aload_n hx hb d_Name_init_0 rfl (lv_at hl 0 rfl) ?_
  refine W.objInit hx hb hown (hts _ k_146) (hts _ k_29) (hts _ k_30) rfl (by rw [hml]; exact hl.1) rfl d_Name_init_1 (Nat.le_of_ble_eq_true rfl) (Nat.le_of_ble_eq_true rfl) ?_
  refine W.eq (g2 := F0 m 4 ls []) rfl ?_
  refine lv_aload_n hx hb d_Name_init_4 rfl (lv_at hl 0 rfl) ?_
  refine lv_lload_n hx hb d_Name_init_5 rfl (lv_at hl 1 rfl) ?_
  refine pq_putF (D := (dC, dI)) (ci := 7) (v := .long hh) (ty := .long) (C := R_Name) (T := F_Name) (N := 3) hx hb hts i_Name t_Name t_Name_ok n_Name hown hK hP hD hS (gL_m hL ha (by decide)) (gE_1 (G := G) ha) rfl 0 (by decide) (hts _ k_147) (fun _ h9 => h9) rfl hin rfl (by decide +kernel) rfl rfl (Nat.le_of_ble_eq_true rfl) (uE_1_0 (G := G) (v := hh) ha) d_Name_init_6 (fun H locs hP hD hS => ?_)
  have hP : va_P (dC, dI) cl ([] ++ va_pl L (gE cO (gJ G a 0 hh))) H := hP
  have hD : va_D A ([] ++ va_pl L (gE cO (gJ G a 0 hh))) := hD
  refine lv_aload_n hx hb d_Name_init_9 rfl (lv_at hl 0 rfl) ?_
  refine lv_lload_n hx hb d_Name_init_10 rfl (lv_at hl 2 rfl) ?_
  refine pq_putF (D := (dC, dI)) (ci := 7) (v := .long tt) (ty := .long) (C := R_Name) (T := F_Name) (N := 3) hx hb hts i_Name t_Name t_Name_ok n_Name hown hK hP hD hS (gL_m hL ha (by decide)) (gE_1 (G := (gJ G a 0 hh)) ha) rfl 1 (by decide) (hts _ k_148) (fun _ h9 => h9) rfl hin rfl (by decide +kernel) rfl rfl (Nat.le_of_ble_eq_true rfl) (uE_1_1 (G := (gJ G a 0 hh)) (v := tt) ha) d_Name_init_11 (fun H locs hP hD hS => ?_)
  have hP : va_P (dC, dI) cl ([] ++ va_pl L (gE cO (gJ (gJ G a 0 hh) a 1 tt))) H := hP
  have hD : va_D A ([] ++ va_pl L (gE cO (gJ (gJ G a 0 hh) a 1 tt))) := hD
  refine lv_aload_n hx hb d_Name_init_14 rfl (lv_at hl 0 rfl) ?_
  refine lv_iload hx hb d_Name_init_15 (lv_at hl 3 rfl) ?_
  refine pq_putF (D := (dC, dI)) (ci := 7) (v := .int (oI pl)) (ty := .int) (C := R_Name) (T := F_Name) (N := 3) hx hb hts i_Name t_Name t_Name_ok n_Name hown hK hP hD hS (gL_m hL ha (by decide)) (gE_1 (G := (gJ (gJ G a 0 hh) a 1 tt)) ha) rfl 2 (by decide) (hts _ k_149) (fun _ h9 => h9) rfl hin rfl (by decide +kernel) rfl rfl (Nat.le_of_ble_eq_true rfl) (uE_1_2 (G := (gJ (gJ G a 0 hh) a 1 tt)) (v := pl) ha) d_Name_init_17 (fun H locs hP hD hS => ?_)
  have hP : va_P (dC, dI) cl ([] ++ va_pl L (gE cO (gO (gJ (gJ G a 0 hh) a 1 tt) a 2 pl))) H := hP
  have hD : va_D A ([] ++ va_pl L (gE cO (gO (gJ (gJ G a 0 hh) a 1 tt) a 2 pl))) := hD
  exact wr_v hx hb hr hlocks () trivial hK hP hD hS d_Name_init_20
set_option maxHeartbeats 4000000 in
set_option maxRecDepth 100000 in
/-- new Wire(name, kind) -/
theorem p_Wire_init (l : Launch) (dC : Nat → ClassId) (dI : Nat → Nat → Nat) (cB cI cL cZ cC cO : ClassId) {L : List Nat} {G : PG} (a nm k : Nat) (t0 sz : Nat) (hL : gL L G) (ha : G.1 a = 2) : Met l y_Wire_init w_Wire_init ({ frames := 1, cells := 0, slots := 0, locals := 30 }) (va_Pc [.ref a, .ref nm, .int (nI k)] (wB2 (dC, dI) cl [(cB, .byte), (cI, .int), (cL, .long), (cZ, .boolean), (cC, .char), (cO, .object "java/lang/Object")] sz t0 ([] ++ va_pl L (gE cO G)))) (va_Qv (fun (u : Unit) => True) (fun _ t => wA (dC, dI) cl [(cB, .byte), (cI, .int), (cL, .long), (cZ, .boolean), (cC, .char), (cO, .object "java/lang/Object")] (va_A ([] ++ va_pl L (gE cO G)) sz) ([] ++ va_pl L (gE cO (gN (gR (gB (gN (gN (gO (gN G a 2 1) a 3 none) a 4 0) a 5 0) a 6 false) a 0 (some nm)) a 1 k))) t) (va_A ([] ++ va_pl L (gE cO G)) sz)) 0 0 (va_A ([] ++ va_pl L (gE cO G)) sz) := by
  refine Met.ofW (cc := b_Wire_init) (maxL := 3) (ret := none) (by decide) rfl ?_
  intro p e s m args below meth c s₁ B hml hv
  obtain ⟨rfl, ⟨hsz, hP, hK, hD0, hF⟩, hE⟩ := hv
  have hx := B.exec
  have hb := B.bytes
  have hr := B.returns
  have hts := atoms_spec (ws := w_Wire_init) B.pre
  have hts : ∀ w ∈ tb, w.before _ s = true := fun w h => hts w (List.mem_cons_of_mem _ h)
  have hown : s.vm.findClass R_Wire = some m.cls := findClass_of_methodNamed B.named
  have hlocks := B.notSynchronized
  have hin : meth.name = "<init>" := (name_of_methodNamed B.named B.method).1
  subst hsz
  have hD := hD0.self (sz := s.heap.size)
  generalize hAe : va_A ([] ++ va_pl L (gE cO G)) s.heap.size = A at hD hF hE ⊢
  have hA : ∀ q : Nat, s.heap.size ≤ q → A q := fun q h => by rw [← hAe]; exact Or.inr h
  have hS : va_S A s.heap s.heap [] := va_S.rf
  have hP : va_P (dC, dI) cl ([] ++ va_pl L (gE cO G)) s.heap := hP
  have hl := lv_entry ([.ref a, .ref nm, .int (nI k)]) (n := 3) (Nat.le_of_ble_eq_true rfl)
  rw [lg_entry_eq]
  generalize (lg_sl ([.ref a, .ref nm, .int (nI k)]) ++ List.replicate (3 - (lg_sl ([.ref a, .ref nm, .int (nI k)])).length) Slot.unset).toArray = ls at hl ⊢
  have hl : lv_has ls 3 [(0, .ref a), (1, .ref nm), (2, .int (nI k))] := hl
  refine lv_aload_n hx hb d_Wire_init_0 rfl (lv_at hl 0 rfl) ?_
  refine W.objInit hx hb hown (hts _ k_213) (hts _ k_29) (hts _ k_30) rfl (by rw [hml]; exact hl.1) rfl d_Wire_init_1 (Nat.le_of_ble_eq_true rfl) (Nat.le_of_ble_eq_true rfl) ?_
  refine W.eq (g2 := F0 m 4 ls []) rfl ?_
  refine lv_aload_n hx hb d_Wire_init_4 rfl (lv_at hl 0 rfl) ?_
  refine lv_iconst (v := nI 1) hx hb d_Wire_init_5 (by decide) ?_
  refine pq_put (D := (dC, dI)) (ci := 8) (v := .int (nI 1)) (ty := .int) (C := R_Wire) (T := F_Wire) (N := 7) hx hb hts i_Wire t_Wire t_Wire_ok n_Wire hown hK hP hD hS (gL_m hL ha (by decide)) (gE_2 (G := G) ha) rfl 2 (by decide) (hts _ k_221) (fun _ h9 => h9) rfl (by decide +kernel) rfl rfl (Nat.le_of_ble_eq_true rfl) (uE_2_2 (G := G) (v := 1) ha) d_Wire_init_6 (fun H locs hP hD hS => ?_)
  have hP : va_P (dC, dI) cl ([] ++ va_pl L (gE cO (gN G a 2 1))) H := hP
  have hD : va_D A ([] ++ va_pl L (gE cO (gN G a 2 1))) := hD
  refine lv_aload_n hx hb d_Wire_init_9 rfl (lv_at hl 0 rfl) ?_
  refine lv_iconst (v := (-1)) hx hb d_Wire_init_10 (by decide) ?_
  refine pq_put (D := (dC, dI)) (ci := 8) (v := .int (oI none)) (ty := .int) (C := R_Wire) (T := F_Wire) (N := 7) hx hb hts i_Wire t_Wire t_Wire_ok n_Wire hown hK hP hD hS (gL_m hL ha (by decide)) (gE_2 (G := (gN G a 2 1)) ha) rfl 3 (by decide) (hts _ k_225) (fun _ h9 => h9) rfl (by decide +kernel) rfl rfl (Nat.le_of_ble_eq_true rfl) (uE_2_3 (G := (gN G a 2 1)) (v := none) ha) d_Wire_init_11 (fun H locs hP hD hS => ?_)
  have hP : va_P (dC, dI) cl ([] ++ va_pl L (gE cO (gO (gN G a 2 1) a 3 none))) H := hP
  have hD : va_D A ([] ++ va_pl L (gE cO (gO (gN G a 2 1) a 3 none))) := hD
  refine lv_aload_n hx hb d_Wire_init_14 rfl (lv_at hl 0 rfl) ?_
  refine lv_iconst (v := nI 0) hx hb d_Wire_init_15 (by decide) ?_
  refine pq_put (D := (dC, dI)) (ci := 8) (v := .int (nI 0)) (ty := .int) (C := R_Wire) (T := F_Wire) (N := 7) hx hb hts i_Wire t_Wire t_Wire_ok n_Wire hown hK hP hD hS (gL_m hL ha (by decide)) (gE_2 (G := (gO (gN G a 2 1) a 3 none)) ha) rfl 4 (by decide) (hts _ k_227) (fun _ h9 => h9) rfl (by decide +kernel) rfl rfl (Nat.le_of_ble_eq_true rfl) (uE_2_4 (G := (gO (gN G a 2 1) a 3 none)) (v := 0) ha) d_Wire_init_16 (fun H locs hP hD hS => ?_)
  have hP : va_P (dC, dI) cl ([] ++ va_pl L (gE cO (gN (gO (gN G a 2 1) a 3 none) a 4 0))) H := hP
  have hD : va_D A ([] ++ va_pl L (gE cO (gN (gO (gN G a 2 1) a 3 none) a 4 0))) := hD
  refine lv_aload_n hx hb d_Wire_init_19 rfl (lv_at hl 0 rfl) ?_
  refine lv_iconst (v := nI 0) hx hb d_Wire_init_20 (by decide) ?_
  refine pq_put (D := (dC, dI)) (ci := 8) (v := .int (nI 0)) (ty := .int) (C := R_Wire) (T := F_Wire) (N := 7) hx hb hts i_Wire t_Wire t_Wire_ok n_Wire hown hK hP hD hS (gL_m hL ha (by decide)) (gE_2 (G := (gN (gO (gN G a 2 1) a 3 none) a 4 0)) ha) rfl 5 (by decide) (hts _ k_230) (fun _ h9 => h9) rfl (by decide +kernel) rfl rfl (Nat.le_of_ble_eq_true rfl) (uE_2_5 (G := (gN (gO (gN G a 2 1) a 3 none) a 4 0)) (v := 0) ha) d_Wire_init_21 (fun H locs hP hD hS => ?_)
  have hP : va_P (dC, dI) cl ([] ++ va_pl L (gE cO (gN (gN (gO (gN G a 2 1) a 3 none) a 4 0) a 5 0))) H := hP
  have hD : va_D A ([] ++ va_pl L (gE cO (gN (gN (gO (gN G a 2 1) a 3 none) a 4 0) a 5 0))) := hD
  refine lv_aload_n hx hb d_Wire_init_24 rfl (lv_at hl 0 rfl) ?_
  refine lv_iconst (v := nI 0) hx hb d_Wire_init_25 (by decide) ?_
  refine pq_put (D := (dC, dI)) (ci := 8) (v := .int (bI false)) (ty := .boolean) (C := R_Wire) (T := F_Wire) (N := 7) hx hb hts i_Wire t_Wire t_Wire_ok n_Wire hown hK hP hD hS (gL_m hL ha (by decide)) (gE_2 (G := (gN (gN (gO (gN G a 2 1) a 3 none) a 4 0) a 5 0)) ha) rfl 6 (by decide) (hts _ k_233) (fun _ h9 => h9) rfl (by decide +kernel) rfl rfl (Nat.le_of_ble_eq_true rfl) (uE_2_6 (G := (gN (gN (gO (gN G a 2 1) a 3 none) a 4 0) a 5 0)) (v := false) ha) d_Wire_init_26 (fun H locs hP hD hS => ?_)
  have hP : va_P (dC, dI) cl ([] ++ va_pl L (gE cO (gB (gN (gN (gO (gN G a 2 1) a 3 none) a 4 0) a 5 0) a 6 false))) H := hP
  have hD : va_D A ([] ++ va_pl L (gE cO (gB (gN (gN (gO (gN G a 2 1) a 3 none) a 4 0) a 5 0) a 6 false))) := hD
  refine lv_aload_n hx hb d_Wire_init_29 rfl (lv_at hl 0 rfl) ?_
  refine lv_aload_n hx hb d_Wire_init_30 rfl (lv_at hl 1 rfl) ?_
  refine pq_putF (D := (dC, dI)) (ci := 8) (v := .ref nm) (ty := .object "ChipDesk$Name") (C := R_Wire) (T := F_Wire) (N := 7) hx hb hts i_Wire t_Wire t_Wire_ok n_Wire hown hK hP hD hS (gL_m hL ha (by decide)) (gE_2 (G := (gB (gN (gN (gO (gN G a 2 1) a 3 none) a 4 0) a 5 0) a 6 false)) ha) rfl 0 (by decide) (hts _ k_214) (fun _ h9 => h9) rfl hin rfl (by decide +kernel) rfl rfl (Nat.le_of_ble_eq_true rfl) (uE_2_0 (G := (gB (gN (gN (gO (gN G a 2 1) a 3 none) a 4 0) a 5 0) a 6 false)) (v := some nm) ha) d_Wire_init_31 (fun H locs hP hD hS => ?_)
  have hP : va_P (dC, dI) cl ([] ++ va_pl L (gE cO (gR (gB (gN (gN (gO (gN G a 2 1) a 3 none) a 4 0) a 5 0) a 6 false) a 0 (some nm)))) H := hP
  have hD : va_D A ([] ++ va_pl L (gE cO (gR (gB (gN (gN (gO (gN G a 2 1) a 3 none) a 4 0) a 5 0) a 6 false) a 0 (some nm)))) := hD
  refine lv_aload_n hx hb d_Wire_init_34 rfl (lv_at hl 0 rfl) ?_
  refine lv_iload_n hx hb d_Wire_init_35 rfl (lv_at hl 2 rfl) ?_
  refine pq_putF (D := (dC, dI)) (ci := 8) (v := .int (nI k)) (ty := .int) (C := R_Wire) (T := F_Wire) (N := 7) hx hb hts i_Wire t_Wire t_Wire_ok n_Wire hown hK hP hD hS (gL_m hL ha (by decide)) (gE_2 (G := (gR (gB (gN (gN (gO (gN G a 2 1) a 3 none) a 4 0) a 5 0) a 6 false) a 0 (some nm))) ha) rfl 1 (by decide) (hts _ k_217) (fun _ h9 => h9) rfl hin rfl (by decide +kernel) rfl rfl (Nat.le_of_ble_eq_true rfl) (uE_2_1 (G := (gR (gB (gN (gN (gO (gN G a 2 1) a 3 none) a 4 0) a 5 0) a 6 false) a 0 (some nm))) (v := k) ha) d_Wire_init_36 (fun H locs hP hD hS => ?_)
  have hP : va_P (dC, dI) cl ([] ++ va_pl L (gE cO (gN (gR (gB (gN (gN (gO (gN G a 2 1) a 3 none) a 4 0) a 5 0) a 6 false) a 0 (some nm)) a 1 k))) H := hP
  have hD : va_D A ([] ++ va_pl L (gE cO (gN (gR (gB (gN (gN (gO (gN G a 2 1) a 3 none) a 4 0) a 5 0) a 6 false) a 0 (some nm)) a 1 k))) := hD
  exact wr_v hx hb hr hlocks () trivial hK hP hD hS d_Wire_init_39
set_option maxHeartbeats 4000000 in
set_option maxRecDepth 100000 in
/-- new Side(name) -/
theorem p_Side_init (l : Launch) (dC : Nat → ClassId) (dI : Nat → Nat → Nat) (cB cI cL cZ cC cO : ClassId) {L : List Nat} {G : PG} (a nm : Nat) (t0 sz : Nat) (hL : gL L G) (ha : G.1 a = 3) : Met l y_Side_init w_Side_init ({ frames := 1, cells := 0, slots := 0, locals := 30 }) (va_Pc [.ref a, .ref nm] (wB2 (dC, dI) cl [(cB, .byte), (cI, .int), (cL, .long), (cZ, .boolean), (cC, .char), (cO, .object "java/lang/Object")] sz t0 ([] ++ va_pl L (gE cO G)))) (va_Qv (fun (u : Unit) => True) (fun _ t => wA (dC, dI) cl [(cB, .byte), (cI, .int), (cL, .long), (cZ, .boolean), (cC, .char), (cO, .object "java/lang/Object")] (va_A ([] ++ va_pl L (gE cO G)) sz) ([] ++ va_pl L (gE cO (gR (gN (gN (gO (gO G a 1 none) a 2 none) a 3 0) a 4 0) a 0 (some nm)))) t) (va_A ([] ++ va_pl L (gE cO G)) sz)) 0 0 (va_A ([] ++ va_pl L (gE cO G)) sz) := by
  refine Met.ofW (cc := b_Side_init) (maxL := 2) (ret := none) (by decide) rfl ?_
  intro p e s m args below meth c s₁ B hml hv
  obtain ⟨rfl, ⟨hsz, hP, hK, hD0, hF⟩, hE⟩ := hv
  have hx := B.exec
  have hb := B.bytes
  have hr := B.returns
  have hts := atoms_spec (ws := w_Side_init) B.pre
  have hts : ∀ w ∈ tb, w.before _ s = true := fun w h => hts w (List.mem_cons_of_mem _ h)
  have hown : s.vm.findClass R_Side = some m.cls := findClass_of_methodNamed B.named
  have hlocks := B.notSynchronized
  have hin : meth.name = "<init>" := (name_of_methodNamed B.named B.method).1
  subst hsz
  have hD := hD0.self (sz := s.heap.size)
  generalize hAe : va_A ([] ++ va_pl L (gE cO G)) s.heap.size = A at hD hF hE ⊢
  have hA : ∀ q : Nat, s.heap.size ≤ q → A q := fun q h => by rw [← hAe]; exact Or.inr h
  have hS : va_S A s.heap s.heap [] := va_S.rf
  have hP : va_P (dC, dI) cl ([] ++ va_pl L (gE cO G)) s.heap := hP
  have hl := lv_entry ([.ref a, .ref nm]) (n := 2) (Nat.le_of_ble_eq_true rfl)
  rw [lg_entry_eq]
  generalize (lg_sl ([.ref a, .ref nm]) ++ List.replicate (2 - (lg_sl ([.ref a, .ref nm])).length) Slot.unset).toArray = ls at hl ⊢
  have hl : lv_has ls 2 [(0, .ref a), (1, .ref nm)] := hl
  refine lv_aload_n hx hb d_Side_init_0 rfl (lv_at hl 0 rfl) ?_
  refine W.objInit hx hb hown (hts _ k_612) (hts _ k_29) (hts _ k_30) rfl (by rw [hml]; exact hl.1) rfl d_Side_init_1 (Nat.le_of_ble_eq_true rfl) (Nat.le_of_ble_eq_true rfl) ?_
  refine W.eq (g2 := F0 m 4 ls []) rfl ?_
  refine lv_aload_n hx hb d_Side_init_4 rfl (lv_at hl 0 rfl) ?_
  refine lv_iconst (v := (-1)) hx hb d_Side_init_5 (by decide) ?_
  refine pq_put (D := (dC, dI)) (ci := 11) (v := .int (oI none)) (ty := .int) (C := R_Side) (T := F_Side) (N := 5) hx hb hts i_Side t_Side t_Side_ok n_Side hown hK hP hD hS (gL_m hL ha (by decide)) (gE_3 (G := G) ha) rfl 1 (by decide) (hts _ k_616) (fun _ h9 => h9) rfl (by decide +kernel) rfl rfl (Nat.le_of_ble_eq_true rfl) (uE_3_1 (G := G) (v := none) ha) d_Side_init_6 (fun H locs hP hD hS => ?_)
  have hP : va_P (dC, dI) cl ([] ++ va_pl L (gE cO (gO G a 1 none))) H := hP
  have hD : va_D A ([] ++ va_pl L (gE cO (gO G a 1 none))) := hD
  refine lv_aload_n hx hb d_Side_init_9 rfl (lv_at hl 0 rfl) ?_
  refine lv_iconst (v := (-1)) hx hb d_Side_init_10 (by decide) ?_
  refine pq_put (D := (dC, dI)) (ci := 11) (v := .int (oI none)) (ty := .int) (C := R_Side) (T := F_Side) (N := 5) hx hb hts i_Side t_Side t_Side_ok n_Side hown hK hP hD hS (gL_m hL ha (by decide)) (gE_3 (G := (gO G a 1 none)) ha) rfl 2 (by decide) (hts _ k_619) (fun _ h9 => h9) rfl (by decide +kernel) rfl rfl (Nat.le_of_ble_eq_true rfl) (uE_3_2 (G := (gO G a 1 none)) (v := none) ha) d_Side_init_11 (fun H locs hP hD hS => ?_)
  have hP : va_P (dC, dI) cl ([] ++ va_pl L (gE cO (gO (gO G a 1 none) a 2 none))) H := hP
  have hD : va_D A ([] ++ va_pl L (gE cO (gO (gO G a 1 none) a 2 none))) := hD
  refine lv_aload_n hx hb d_Side_init_14 rfl (lv_at hl 0 rfl) ?_
  refine lv_iconst (v := nI 0) hx hb d_Side_init_15 (by decide) ?_
  refine pq_put (D := (dC, dI)) (ci := 11) (v := .int (nI 0)) (ty := .int) (C := R_Side) (T := F_Side) (N := 5) hx hb hts i_Side t_Side t_Side_ok n_Side hown hK hP hD hS (gL_m hL ha (by decide)) (gE_3 (G := (gO (gO G a 1 none) a 2 none)) ha) rfl 3 (by decide) (hts _ k_622) (fun _ h9 => h9) rfl (by decide +kernel) rfl rfl (Nat.le_of_ble_eq_true rfl) (uE_3_3 (G := (gO (gO G a 1 none) a 2 none)) (v := 0) ha) d_Side_init_16 (fun H locs hP hD hS => ?_)
  have hP : va_P (dC, dI) cl ([] ++ va_pl L (gE cO (gN (gO (gO G a 1 none) a 2 none) a 3 0))) H := hP
  have hD : va_D A ([] ++ va_pl L (gE cO (gN (gO (gO G a 1 none) a 2 none) a 3 0))) := hD
  refine lv_aload_n hx hb d_Side_init_19 rfl (lv_at hl 0 rfl) ?_
  refine lv_iconst (v := nI 0) hx hb d_Side_init_20 (by decide) ?_
  refine pq_put (D := (dC, dI)) (ci := 11) (v := .int (nI 0)) (ty := .int) (C := R_Side) (T := F_Side) (N := 5) hx hb hts i_Side t_Side t_Side_ok n_Side hown hK hP hD hS (gL_m hL ha (by decide)) (gE_3 (G := (gN (gO (gO G a 1 none) a 2 none) a 3 0)) ha) rfl 4 (by decide) (hts _ k_625) (fun _ h9 => h9) rfl (by decide +kernel) rfl rfl (Nat.le_of_ble_eq_true rfl) (uE_3_4 (G := (gN (gO (gO G a 1 none) a 2 none) a 3 0)) (v := 0) ha) d_Side_init_21 (fun H locs hP hD hS => ?_)
  have hP : va_P (dC, dI) cl ([] ++ va_pl L (gE cO (gN (gN (gO (gO G a 1 none) a 2 none) a 3 0) a 4 0))) H := hP
  have hD : va_D A ([] ++ va_pl L (gE cO (gN (gN (gO (gO G a 1 none) a 2 none) a 3 0) a 4 0))) := hD
  refine lv_aload_n hx hb d_Side_init_24 rfl (lv_at hl 0 rfl) ?_
  refine lv_aload_n hx hb d_Side_init_25 rfl (lv_at hl 1 rfl) ?_
  refine pq_putF (D := (dC, dI)) (ci := 11) (v := .ref nm) (ty := .object "ChipDesk$Name") (C := R_Side) (T := F_Side) (N := 5) hx hb hts i_Side t_Side t_Side_ok n_Side hown hK hP hD hS (gL_m hL ha (by decide)) (gE_3 (G := (gN (gN (gO (gO G a 1 none) a 2 none) a 3 0) a 4 0)) ha) rfl 0 (by decide) (hts _ k_613) (fun _ h9 => h9) rfl hin rfl (by decide +kernel) rfl rfl (Nat.le_of_ble_eq_true rfl) (uE_3_0 (G := (gN (gN (gO (gO G a 1 none) a 2 none) a 3 0) a 4 0)) (v := some nm) ha) d_Side_init_26 (fun H locs hP hD hS => ?_)
  have hP : va_P (dC, dI) cl ([] ++ va_pl L (gE cO (gR (gN (gN (gO (gO G a 1 none) a 2 none) a 3 0) a 4 0) a 0 (some nm)))) H := hP
  have hD : va_D A ([] ++ va_pl L (gE cO (gR (gN (gN (gO (gO G a 1 none) a 2 none) a 3 0) a 4 0) a 0 (some nm)))) := hD
  exact wr_v hx hb hr hlocks () trivial hK hP hD hS d_Side_init_29
set_option maxHeartbeats 4000000 in
set_option maxRecDepth 100000 in
/-- new Link(left, right, wire) -/
theorem p_Link_initS (l : Launch) (dC : Nat → ClassId) (dI : Nat → Nat → Nat) (cB cI cL cZ cC cO : ClassId) {L : List Nat} {G : PG} (a x y z : Nat) (t0 sz : Nat) (hL : gL L G) (ha : G.1 a = 4) : Met l y_Link_init w_Link_init ({ frames := 1, cells := 0, slots := 0, locals := 30 }) (va_Pc [.ref a, .ref x, .ref y, .ref z] (wB2 (dC, dI) cl [(cB, .byte), (cI, .int), (cL, .long), (cZ, .boolean), (cC, .char), (cO, .object "java/lang/Object")] sz t0 ([] ++ va_pl L (gE cO G)))) (va_Qv (fun (u : Unit) => True) (fun _ t => wA (dC, dI) cl [(cB, .byte), (cI, .int), (cL, .long), (cZ, .boolean), (cC, .char), (cO, .object "java/lang/Object")] (va_A ([] ++ va_pl L (gE cO G)) sz) ([] ++ va_pl L (gE cO (gR (gR (gR (gR G a 2 none) a 0 (some x)) a 1 (some y)) a 3 (some z)))) t) (va_A ([] ++ va_pl L (gE cO G)) sz)) 0 0 (va_A ([] ++ va_pl L (gE cO G)) sz) := by
  refine Met.ofW (cc := b_Link_init) (maxL := 4) (ret := none) (by decide) rfl ?_
  intro p e s m args below meth c s₁ B hml hv
  obtain ⟨rfl, ⟨hsz, hP, hK, hD0, hF⟩, hE⟩ := hv
  have hx := B.exec
  have hb := B.bytes
  have hr := B.returns
  have hts := atoms_spec (ws := w_Link_init) B.pre
  have hts : ∀ w ∈ tb, w.before _ s = true := fun w h => hts w (List.mem_cons_of_mem _ h)
  have hown : s.vm.findClass R_Link = some m.cls := findClass_of_methodNamed B.named
  have hlocks := B.notSynchronized
  have hin : meth.name = "<init>" := (name_of_methodNamed B.named B.method).1
  subst hsz
  have hD := hD0.self (sz := s.heap.size)
  generalize hAe : va_A ([] ++ va_pl L (gE cO G)) s.heap.size = A at hD hF hE ⊢
  have hA : ∀ q : Nat, s.heap.size ≤ q → A q := fun q h => by rw [← hAe]; exact Or.inr h
  have hS : va_S A s.heap s.heap [] := va_S.rf
  have hP : va_P (dC, dI) cl ([] ++ va_pl L (gE cO G)) s.heap := hP
  have hl := lv_entry ([.ref a, .ref x, .ref y, .ref z]) (n := 4) (Nat.le_of_ble_eq_true rfl)
  rw [lg_entry_eq]
  generalize (lg_sl ([.ref a, .ref x, .ref y, .ref z]) ++ List.replicate (4 - (lg_sl ([.ref a, .ref x, .ref y, .ref z])).length) Slot.unset).toArray = ls at hl ⊢
  have hl : lv_has ls 4 [(0, .ref a), (1, .ref x), (2, .ref y), (3, .ref z)] := hl
  refine lv_aload_n hx hb d_Link_init_0 rfl (lv_at hl 0 rfl) ?_
  refine W.objInit hx hb hown (hts _ k_651) (hts _ k_29) (hts _ k_30) rfl (by rw [hml]; exact hl.1) rfl d_Link_init_1 (Nat.le_of_ble_eq_true rfl) (Nat.le_of_ble_eq_true rfl) ?_
  refine W.eq (g2 := F0 m 4 ls []) rfl ?_
  refine lv_aload_n hx hb d_Link_init_4 rfl (lv_at hl 0 rfl) ?_
  refine lv_null hx hb d_Link_init_5 ?_
  refine pq_put (D := (dC, dI)) (ci := 12) (v := .null) (ty := .object "ChipDesk$Wire") (C := R_Link) (T := F_Link) (N := 4) hx hb hts i_Link t_Link t_Link_ok n_Link hown hK hP hD hS (gL_m hL ha (by decide)) (gE_4 (G := G) ha) rfl 2 (by decide) (hts _ k_658) (fun _ h9 => h9) rfl (by decide +kernel) rfl rfl (Nat.le_of_ble_eq_true rfl) (uE_4_2 (G := G) (v := none) ha) d_Link_init_6 (fun H locs hP hD hS => ?_)
  have hP : va_P (dC, dI) cl ([] ++ va_pl L (gE cO (gR G a 2 none))) H := hP
  have hD : va_D A ([] ++ va_pl L (gE cO (gR G a 2 none))) := hD
  refine lv_aload_n hx hb d_Link_init_9 rfl (lv_at hl 0 rfl) ?_
  refine lv_aload_n hx hb d_Link_init_10 rfl (lv_at hl 1 rfl) ?_
  refine pq_putF (D := (dC, dI)) (ci := 12) (v := .ref x) (ty := .object "ChipDesk$Side") (C := R_Link) (T := F_Link) (N := 4) hx hb hts i_Link t_Link t_Link_ok n_Link hown hK hP hD hS (gL_m hL ha (by decide)) (gE_4 (G := (gR G a 2 none)) ha) rfl 0 (by decide) (hts _ k_652) (fun _ h9 => h9) rfl hin rfl (by decide +kernel) rfl rfl (Nat.le_of_ble_eq_true rfl) (uE_4_0 (G := (gR G a 2 none)) (v := some x) ha) d_Link_init_11 (fun H locs hP hD hS => ?_)
  have hP : va_P (dC, dI) cl ([] ++ va_pl L (gE cO (gR (gR G a 2 none) a 0 (some x)))) H := hP
  have hD : va_D A ([] ++ va_pl L (gE cO (gR (gR G a 2 none) a 0 (some x)))) := hD
  refine lv_aload_n hx hb d_Link_init_14 rfl (lv_at hl 0 rfl) ?_
  refine lv_aload_n hx hb d_Link_init_15 rfl (lv_at hl 2 rfl) ?_
  refine pq_putF (D := (dC, dI)) (ci := 12) (v := .ref y) (ty := .object "ChipDesk$Side") (C := R_Link) (T := F_Link) (N := 4) hx hb hts i_Link t_Link t_Link_ok n_Link hown hK hP hD hS (gL_m hL ha (by decide)) (gE_4 (G := (gR (gR G a 2 none) a 0 (some x))) ha) rfl 1 (by decide) (hts _ k_655) (fun _ h9 => h9) rfl hin rfl (by decide +kernel) rfl rfl (Nat.le_of_ble_eq_true rfl) (uE_4_1 (G := (gR (gR G a 2 none) a 0 (some x))) (v := some y) ha) d_Link_init_16 (fun H locs hP hD hS => ?_)
  have hP : va_P (dC, dI) cl ([] ++ va_pl L (gE cO (gR (gR (gR G a 2 none) a 0 (some x)) a 1 (some y)))) H := hP
  have hD : va_D A ([] ++ va_pl L (gE cO (gR (gR (gR G a 2 none) a 0 (some x)) a 1 (some y)))) := hD
  refine lv_aload_n hx hb d_Link_init_19 rfl (lv_at hl 0 rfl) ?_
  refine lv_aload_n hx hb d_Link_init_20 rfl (lv_at hl 3 rfl) ?_
  refine pq_putF (D := (dC, dI)) (ci := 12) (v := .ref z) (ty := .object "ChipDesk$Wire") (C := R_Link) (T := F_Link) (N := 4) hx hb hts i_Link t_Link t_Link_ok n_Link hown hK hP hD hS (gL_m hL ha (by decide)) (gE_4 (G := (gR (gR (gR G a 2 none) a 0 (some x)) a 1 (some y))) ha) rfl 3 (by decide) (hts _ k_661) (fun _ h9 => h9) rfl hin rfl (by decide +kernel) rfl rfl (Nat.le_of_ble_eq_true rfl) (uE_4_3 (G := (gR (gR (gR G a 2 none) a 0 (some x)) a 1 (some y))) (v := some z) ha) d_Link_init_21 (fun H locs hP hD hS => ?_)
  have hP : va_P (dC, dI) cl ([] ++ va_pl L (gE cO (gR (gR (gR (gR G a 2 none) a 0 (some x)) a 1 (some y)) a 3 (some z)))) H := hP
  have hD : va_D A ([] ++ va_pl L (gE cO (gR (gR (gR (gR G a 2 none) a 0 (some x)) a 1 (some y)) a 3 (some z)))) := hD
  exact wr_v hx hb hr hlocks () trivial hK hP hD hS d_Link_init_24
set_option maxHeartbeats 4000000 in
set_option maxRecDepth 100000 in
/-- new Link(left, right, null) -/
theorem p_Link_initN (l : Launch) (dC : Nat → ClassId) (dI : Nat → Nat → Nat) (cB cI cL cZ cC cO : ClassId) {L : List Nat} {G : PG} (a x y : Nat) (t0 sz : Nat) (hL : gL L G) (ha : G.1 a = 4) : Met l y_Link_init w_Link_init ({ frames := 1, cells := 0, slots := 0, locals := 30 }) (va_Pc [.ref a, .ref x, .ref y, .null] (wB2 (dC, dI) cl [(cB, .byte), (cI, .int), (cL, .long), (cZ, .boolean), (cC, .char), (cO, .object "java/lang/Object")] sz t0 ([] ++ va_pl L (gE cO G)))) (va_Qv (fun (u : Unit) => True) (fun _ t => wA (dC, dI) cl [(cB, .byte), (cI, .int), (cL, .long), (cZ, .boolean), (cC, .char), (cO, .object "java/lang/Object")] (va_A ([] ++ va_pl L (gE cO G)) sz) ([] ++ va_pl L (gE cO (gR (gR (gR (gR G a 2 none) a 0 (some x)) a 1 (some y)) a 3 none))) t) (va_A ([] ++ va_pl L (gE cO G)) sz)) 0 0 (va_A ([] ++ va_pl L (gE cO G)) sz) := by
  refine Met.ofW (cc := b_Link_init) (maxL := 4) (ret := none) (by decide) rfl ?_
  intro p e s m args below meth c s₁ B hml hv
  obtain ⟨rfl, ⟨hsz, hP, hK, hD0, hF⟩, hE⟩ := hv
  have hx := B.exec
  have hb := B.bytes
  have hr := B.returns
  have hts := atoms_spec (ws := w_Link_init) B.pre
  have hts : ∀ w ∈ tb, w.before _ s = true := fun w h => hts w (List.mem_cons_of_mem _ h)
  have hown : s.vm.findClass R_Link = some m.cls := findClass_of_methodNamed B.named
  have hlocks := B.notSynchronized
  have hin : meth.name = "<init>" := (name_of_methodNamed B.named B.method).1
  subst hsz
  have hD := hD0.self (sz := s.heap.size)
  generalize hAe : va_A ([] ++ va_pl L (gE cO G)) s.heap.size = A at hD hF hE ⊢
  have hA : ∀ q : Nat, s.heap.size ≤ q → A q := fun q h => by rw [← hAe]; exact Or.inr h
  have hS : va_S A s.heap s.heap [] := va_S.rf
  have hP : va_P (dC, dI) cl ([] ++ va_pl L (gE cO G)) s.heap := hP
  have hl := lv_entry ([.ref a, .ref x, .ref y, .null]) (n := 4) (Nat.le_of_ble_eq_true rfl)
  rw [lg_entry_eq]
  generalize (lg_sl ([.ref a, .ref x, .ref y, .null]) ++ List.replicate (4 - (lg_sl ([.ref a, .ref x, .ref y, .null])).length) Slot.unset).toArray = ls at hl ⊢
  have hl : lv_has ls 4 [(0, .ref a), (1, .ref x), (2, .ref y), (3, .null)] := hl
  refine lv_aload_n hx hb d_Link_init_0 rfl (lv_at hl 0 rfl) ?_
  refine W.objInit hx hb hown (hts _ k_651) (hts _ k_29) (hts _ k_30) rfl (by rw [hml]; exact hl.1) rfl d_Link_init_1 (Nat.le_of_ble_eq_true rfl) (Nat.le_of_ble_eq_true rfl) ?_
  refine W.eq (g2 := F0 m 4 ls []) rfl ?_
  refine lv_aload_n hx hb d_Link_init_4 rfl (lv_at hl 0 rfl) ?_
  refine lv_null hx hb d_Link_init_5 ?_
  refine pq_put (D := (dC, dI)) (ci := 12) (v := .null) (ty := .object "ChipDesk$Wire") (C := R_Link) (T := F_Link) (N := 4) hx hb hts i_Link t_Link t_Link_ok n_Link hown hK hP hD hS (gL_m hL ha (by decide)) (gE_4 (G := G) ha) rfl 2 (by decide) (hts _ k_658) (fun _ h9 => h9) rfl (by decide +kernel) rfl rfl (Nat.le_of_ble_eq_true rfl) (uE_4_2 (G := G) (v := none) ha) d_Link_init_6 (fun H locs hP hD hS => ?_)
  have hP : va_P (dC, dI) cl ([] ++ va_pl L (gE cO (gR G a 2 none))) H := hP
  have hD : va_D A ([] ++ va_pl L (gE cO (gR G a 2 none))) := hD
  refine lv_aload_n hx hb d_Link_init_9 rfl (lv_at hl 0 rfl) ?_
  refine lv_aload_n hx hb d_Link_init_10 rfl (lv_at hl 1 rfl) ?_
  refine pq_putF (D := (dC, dI)) (ci := 12) (v := .ref x) (ty := .object "ChipDesk$Side") (C := R_Link) (T := F_Link) (N := 4) hx hb hts i_Link t_Link t_Link_ok n_Link hown hK hP hD hS (gL_m hL ha (by decide)) (gE_4 (G := (gR G a 2 none)) ha) rfl 0 (by decide) (hts _ k_652) (fun _ h9 => h9) rfl hin rfl (by decide +kernel) rfl rfl (Nat.le_of_ble_eq_true rfl) (uE_4_0 (G := (gR G a 2 none)) (v := some x) ha) d_Link_init_11 (fun H locs hP hD hS => ?_)
  have hP : va_P (dC, dI) cl ([] ++ va_pl L (gE cO (gR (gR G a 2 none) a 0 (some x)))) H := hP
  have hD : va_D A ([] ++ va_pl L (gE cO (gR (gR G a 2 none) a 0 (some x)))) := hD
  refine lv_aload_n hx hb d_Link_init_14 rfl (lv_at hl 0 rfl) ?_
  refine lv_aload_n hx hb d_Link_init_15 rfl (lv_at hl 2 rfl) ?_
  refine pq_putF (D := (dC, dI)) (ci := 12) (v := .ref y) (ty := .object "ChipDesk$Side") (C := R_Link) (T := F_Link) (N := 4) hx hb hts i_Link t_Link t_Link_ok n_Link hown hK hP hD hS (gL_m hL ha (by decide)) (gE_4 (G := (gR (gR G a 2 none) a 0 (some x))) ha) rfl 1 (by decide) (hts _ k_655) (fun _ h9 => h9) rfl hin rfl (by decide +kernel) rfl rfl (Nat.le_of_ble_eq_true rfl) (uE_4_1 (G := (gR (gR G a 2 none) a 0 (some x))) (v := some y) ha) d_Link_init_16 (fun H locs hP hD hS => ?_)
  have hP : va_P (dC, dI) cl ([] ++ va_pl L (gE cO (gR (gR (gR G a 2 none) a 0 (some x)) a 1 (some y)))) H := hP
  have hD : va_D A ([] ++ va_pl L (gE cO (gR (gR (gR G a 2 none) a 0 (some x)) a 1 (some y)))) := hD
  refine lv_aload_n hx hb d_Link_init_19 rfl (lv_at hl 0 rfl) ?_
  refine lv_aload_nN hx hb d_Link_init_20 rfl (lv_at hl 3 rfl) ?_
  refine pq_putF (D := (dC, dI)) (ci := 12) (v := .null) (ty := .object "ChipDesk$Wire") (C := R_Link) (T := F_Link) (N := 4) hx hb hts i_Link t_Link t_Link_ok n_Link hown hK hP hD hS (gL_m hL ha (by decide)) (gE_4 (G := (gR (gR (gR G a 2 none) a 0 (some x)) a 1 (some y))) ha) rfl 3 (by decide) (hts _ k_661) (fun _ h9 => h9) rfl hin rfl (by decide +kernel) rfl rfl (Nat.le_of_ble_eq_true rfl) (uE_4_3 (G := (gR (gR (gR G a 2 none) a 0 (some x)) a 1 (some y))) (v := none) ha) d_Link_init_21 (fun H locs hP hD hS => ?_)
  have hP : va_P (dC, dI) cl ([] ++ va_pl L (gE cO (gR (gR (gR (gR G a 2 none) a 0 (some x)) a 1 (some y)) a 3 none))) H := hP
  have hD : va_D A ([] ++ va_pl L (gE cO (gR (gR (gR (gR G a 2 none) a 0 (some x)) a 1 (some y)) a 3 none))) := hD
  exact wr_v hx hb hr hlocks () trivial hK hP hD hS d_Link_init_24
set_option maxHeartbeats 4000000 in
set_option maxRecDepth 100000 in
/-- hasRange() -/
theorem p_Side_hasRange (l : Launch) (dC : Nat → ClassId) (dI : Nat → Nat → Nat) (cB cI cL cZ cC cO : ClassId) {L : List Nat} {G : PG} (a : Nat) (t0 sz : Nat) (hL : gL L G) (ha : G.1 a = 3) (ho : ∀ z, G.2.2.1 a 2 = some z → z < 2 ^ 31) : Met l y_Side_hasRange w_Side_hasRange ({ frames := 0, cells := 0, slots := 0, locals := 0 }) (va_Pc [.ref a] (wB2 (dC, dI) cl [(cB, .byte), (cI, .int), (cL, .long), (cZ, .boolean), (cC, .char), (cO, .object "java/lang/Object")] sz t0 ([] ++ va_pl L (gE cO G)))) (va_Qi (fun (r : Int32) (u : Unit) => r = bI (!decide (G.2.2.1 a 2 = none))) (fun _ t => wA (dC, dI) cl [(cB, .byte), (cI, .int), (cL, .long), (cZ, .boolean), (cC, .char), (cO, .object "java/lang/Object")] (va_A ([] ++ va_pl L (gE cO G)) sz) ([] ++ va_pl L (gE cO G)) t) (va_A ([] ++ va_pl L (gE cO G)) sz)) 0 0 (va_A ([] ++ va_pl L (gE cO G)) sz) := by
  refine Met.ofW (cc := b_Side_hasRange) (maxL := 1) (ret := (some ClassFile.FieldType.boolean)) (by decide) rfl ?_
  intro p e s m args below meth c s₁ B hml hv
  obtain ⟨rfl, ⟨hsz, hP, hK, hD0, hF⟩, hE⟩ := hv
  have hx := B.exec
  have hb := B.bytes
  have hr := B.returns
  have hts := atoms_spec (ws := w_Side_hasRange) B.pre
  have hts : ∀ w ∈ tb, w.before _ s = true := fun w h => hts w (List.mem_cons_of_mem _ h)
  have hown : s.vm.findClass R_Side = some m.cls := findClass_of_methodNamed B.named
  have hlocks := B.notSynchronized
  subst hsz
  have hD := hD0.self (sz := s.heap.size)
  generalize hAe : va_A ([] ++ va_pl L (gE cO G)) s.heap.size = A at hD hF hE ⊢
  have hA : ∀ q : Nat, s.heap.size ≤ q → A q := fun q h => by rw [← hAe]; exact Or.inr h
  have hS : va_S A s.heap s.heap [] := va_S.rf
  have hP : va_P (dC, dI) cl ([] ++ va_pl L (gE cO G)) s.heap := hP
  have hl := lv_entry ([.ref a]) (n := 1) (Nat.le_of_ble_eq_true rfl)
  rw [lg_entry_eq]
  generalize (lg_sl ([.ref a]) ++ List.replicate (1 - (lg_sl ([.ref a])).length) Slot.unset).toArray = ls at hl ⊢
  have hl : lv_has ls 1 [(0, .ref a)] := hl
  refine lv_aload_n hx hb d_Side_hasRange_0 rfl (lv_at hl 0 rfl) ?_
  refine pq_get (D := (dC, dI)) (ci := 11) (v := .int (oI (G.2.2.1 a 2))) (C := R_Side) (T := F_Side) (N := 5) hx hb hts i_Side hown hK hP (gL_m hL ha (by decide)) (gE_3 (G := G) ha) rfl 2 (by decide) (hts _ k_619) (fun _ h9 => h9) rfl d_Side_hasRange_1 ?_
  refine lv_iconst (v := (-1)) hx hb d_Side_hasRange_4 (by decide) ?_
  refine nv_oicmp_eq (tgt := 12) hx hb (by assumption) d_Side_hasRange_5 (by decide) (fun c_1 => ?_) (fun c_1 => ?_)
  · refine lv_iconst (v := nI 0) hx hb d_Side_hasRange_12 (by decide) ?_
    exact wr_z (x := false) hx hb hr hlocks () (congrArg bI (by simp [c_1])) hK hP hD hS d_Side_hasRange_13
  · refine lv_iconst (v := nI 1) hx hb d_Side_hasRange_8 (by decide) ?_
    refine lv_goto (tgt := 13) hx hb d_Side_hasRange_9 (by decide) ?_
    exact wr_z (x := true) hx hb hr hlocks () (congrArg bI (by simp [c_1])) hK hP hD hS d_Side_hasRange_13
set_option maxHeartbeats 4000000 in
set_option maxRecDepth 100000 in
/-- fits(n) -/
theorem p_Side_fits (l : Launch) (dC : Nat → ClassId) (dI : Nat → Nat → Nat) (cB cI cL cZ cC cO : ClassId) {L : List Nat} {G : PG} (a n : Nat) (t0 sz : Nat) (hL : gL L G) (ha : G.1 a = 3) (ho : ∀ z, G.2.2.1 a 2 = some z → z < 2 ^ 31) (hlo : G.2.1 a 3 < 100) (hhi : G.2.1 a 4 < 100) (hn : n < 2 ^ 31) : Met l y_Side_fits w_Side_fits ({ frames := 1, cells := 0, slots := 0, locals := 40 }) (va_Pc [.ref a, .int (nI n)] (wB2 (dC, dI) cl [(cB, .byte), (cI, .int), (cL, .long), (cZ, .boolean), (cC, .char), (cO, .object "java/lang/Object")] sz t0 ([] ++ va_pl L (gE cO G)))) (va_Qi (fun (r : Int32) (u : Unit) => r = bI (m_fits (G.2.2.1 a 2) (G.2.1 a 3) (G.2.1 a 4) n)) (fun _ t => wA (dC, dI) cl [(cB, .byte), (cI, .int), (cL, .long), (cZ, .boolean), (cC, .char), (cO, .object "java/lang/Object")] (va_A ([] ++ va_pl L (gE cO G)) sz) ([] ++ va_pl L (gE cO G)) t) (va_A ([] ++ va_pl L (gE cO G)) sz)) 0 0 (va_A ([] ++ va_pl L (gE cO G)) sz) := by
  refine Met.ofW (cc := b_Side_fits) (maxL := 2) (ret := (some ClassFile.FieldType.boolean)) (by decide) rfl ?_
  intro p e s m args below meth c s₁ B hml hv
  obtain ⟨rfl, ⟨hsz, hP, hK, hD0, hF⟩, hE⟩ := hv
  have hx := B.exec
  have hb := B.bytes
  have hr := B.returns
  have hts := atoms_spec (ws := w_Side_fits) B.pre
  have hts : ∀ w ∈ tb, w.before _ s = true := fun w h => hts w (List.mem_cons_of_mem _ h)
  have hown : s.vm.findClass R_Side = some m.cls := findClass_of_methodNamed B.named
  have hlocks := B.notSynchronized
  subst hsz
  have hD := hD0.self (sz := s.heap.size)
  generalize hAe : va_A ([] ++ va_pl L (gE cO G)) s.heap.size = A at hD hF hE ⊢
  have hA : ∀ q : Nat, s.heap.size ≤ q → A q := fun q h => by rw [← hAe]; exact Or.inr h
  have hS : va_S A s.heap s.heap [] := va_S.rf
  have hP : va_P (dC, dI) cl ([] ++ va_pl L (gE cO G)) s.heap := hP
  have hl := lv_entry ([.ref a, .int (nI n)]) (n := 2) (Nat.le_of_ble_eq_true rfl)
  rw [lg_entry_eq]
  generalize (lg_sl ([.ref a, .int (nI n)]) ++ List.replicate (2 - (lg_sl ([.ref a, .int (nI n)])).length) Slot.unset).toArray = ls at hl ⊢
  have hl : lv_has ls 2 [(0, .ref a), (1, .int (nI n))] := hl
  refine lv_aload_n hx hb d_Side_fits_0 rfl (lv_at hl 0 rfl) ?_
  refine wd_i (cx := []) (wr := []) (pl := va_pl L (gE cO G)) (va_runV (As := []) (rest := []) ⟨hx, hb, hml, hown, hts⟩ (p_Side_hasRange l dC dI cB cI cL cZ cC cO a t0 _ hL ha ho) (cwV 0 hts (good_V k_710 k_711 k_712 k_21 k_713) rfl rfl rfl (by decide +kernel) ⟨Nat.le_of_ble_eq_true rfl, Nat.le_of_ble_eq_true rfl⟩) (wd_preV (ci := 11) (r := (R_Side, F_Side, 5)) hK hP hD hS hA hF hE [] (by decide) rfl rfl (pq_at (gL_m hL ha (by decide)) (gE_3 (G := G) ha))) rfl rfl hl.1 rfl (lv_room (Nat.le_of_ble_eq_true rfl)) d_Side_fits_1 ⟨Nat.le_of_ble_eq_true rfl, Nat.le_of_ble_eq_true rfl⟩) hP hD hS hA [] [] rfl rfl (by decide) (by decide) (fun r_2 _ H locs w_1 hP hD hS => ?_)
  have hP : va_P (dC, dI) cl ([] ++ va_pl L (gE cO G)) H := hP
  have hD : va_D A ([] ++ va_pl L (gE cO G)) := hD
  subst w_1
  refine nv_bif_eq (tgt := 26) hx hb d_Side_fits_4 (by decide) (fun c_3 => ?_) (fun c_3 => ?_)
  · refine lv_iconst (v := nI 1) hx hb d_Side_fits_26 (by decide) ?_
    refine lv_goto (tgt := 31) hx hb d_Side_fits_27 (by decide) ?_
    exact wr_z (x := true) hx hb hr hlocks () (congrArg bI (by unfold m_fits; first | (rw [if_pos (by simpa using c_3)]) | (rw [if_neg (by simpa using c_3)]; simp; omega))) hK hP hD hS d_Side_fits_31
  · refine lv_aload_n hx hb d_Side_fits_7 rfl (lv_at hl 0 rfl) ?_
    refine pq_get (D := (dC, dI)) (ci := 11) (v := .int (nI (G.2.1 a 3))) (C := R_Side) (T := F_Side) (N := 5) hx hb hts i_Side hown hK hP (gL_m hL ha (by decide)) (gE_3 (G := G) ha) rfl 3 (by decide) (hts _ k_622) (fun _ h9 => h9) rfl d_Side_fits_8 ?_
    refine lv_aload_n hx hb d_Side_fits_11 rfl (lv_at hl 0 rfl) ?_
    refine pq_get (D := (dC, dI)) (ci := 11) (v := .int (nI (G.2.1 a 4))) (C := R_Side) (T := F_Side) (N := 5) hx hb hts i_Side hown hK hP (gL_m hL ha (by decide)) (gE_3 (G := G) ha) rfl 4 (by decide) (hts _ k_625) (fun _ h9 => h9) rfl d_Side_fits_12 ?_
    refine nv_icmp_gt (tgt := 30) hx hb (by omega) (by omega) d_Side_fits_15 (by decide) (fun c_4 => ?_) (fun c_4 => ?_)
    · refine lv_iconst (v := nI 0) hx hb d_Side_fits_30 (by decide) ?_
      exact wr_z (x := false) hx hb hr hlocks () (congrArg bI (by unfold m_fits; first | (rw [if_pos (by simpa using c_3)]) | (rw [if_neg (by simpa using c_3)]; simp; omega))) hK hP hD hS d_Side_fits_31
    · refine lv_aload_n hx hb d_Side_fits_18 rfl (lv_at hl 0 rfl) ?_
      refine pq_get (D := (dC, dI)) (ci := 11) (v := .int (nI (G.2.1 a 4))) (C := R_Side) (T := F_Side) (N := 5) hx hb hts i_Side hown hK hP (gL_m hL ha (by decide)) (gE_3 (G := G) ha) rfl 4 (by decide) (hts _ k_625) (fun _ h9 => h9) rfl d_Side_fits_19 ?_
      refine lv_iload_n hx hb d_Side_fits_22 rfl (lv_at hl 1 rfl) ?_
      refine nv_icmp_ge (tgt := 30) hx hb (by omega) (by omega) d_Side_fits_23 (by decide) (fun c_5 => ?_) (fun c_5 => ?_)
      · refine lv_iconst (v := nI 0) hx hb d_Side_fits_30 (by decide) ?_
        exact wr_z (x := false) hx hb hr hlocks () (congrArg bI (by unfold m_fits; first | (rw [if_pos (by simpa using c_3)]) | (rw [if_neg (by simpa using c_3)]; simp; omega))) hK hP hD hS d_Side_fits_31
      · refine lv_iconst (v := nI 1) hx hb d_Side_fits_26 (by decide) ?_
        refine lv_goto (tgt := 31) hx hb d_Side_fits_27 (by decide) ?_
        exact wr_z (x := true) hx hb hr hlocks () (congrArg bI (by unfold m_fits; first | (rw [if_pos (by simpa using c_3)]) | (rw [if_neg (by simpa using c_3)]; simp; omega))) hK hP hD hS d_Side_fits_31
set_option maxHeartbeats 4000000 in
set_option maxRecDepth 100000 in
/-- width(n) -/
theorem p_Side_width (l : Launch) (dC : Nat → ClassId) (dI : Nat → Nat → Nat) (cB cI cL cZ cC cO : ClassId) {L : List Nat} {G : PG} (a n : Nat) (t0 sz : Nat) (hL : gL L G) (ha : G.1 a = 3) (ho : ∀ z, G.2.2.1 a 2 = some z → z < 2 ^ 31) (hlo : G.2.1 a 3 < 100) (hhi : G.2.1 a 4 < 100) (hlh : G.2.1 a 3 ≤ G.2.1 a 4) : Met l y_Side_width w_Side_width ({ frames := 1, cells := 0, slots := 0, locals := 40 }) (va_Pc [.ref a, .int (nI n)] (wB2 (dC, dI) cl [(cB, .byte), (cI, .int), (cL, .long), (cZ, .boolean), (cC, .char), (cO, .object "java/lang/Object")] sz t0 ([] ++ va_pl L (gE cO G)))) (va_Qi (fun (r : Int32) (u : Unit) => r = nI (m_bits (G.2.2.1 a 2) (G.2.1 a 3) (G.2.1 a 4) n)) (fun _ t => wA (dC, dI) cl [(cB, .byte), (cI, .int), (cL, .long), (cZ, .boolean), (cC, .char), (cO, .object "java/lang/Object")] (va_A ([] ++ va_pl L (gE cO G)) sz) ([] ++ va_pl L (gE cO G)) t) (va_A ([] ++ va_pl L (gE cO G)) sz)) 0 0 (va_A ([] ++ va_pl L (gE cO G)) sz) := by
  refine Met.ofW (cc := b_Side_width) (maxL := 2) (ret := (some ClassFile.FieldType.int)) (by decide) rfl ?_
  intro p e s m args below meth c s₁ B hml hv
  obtain ⟨rfl, ⟨hsz, hP, hK, hD0, hF⟩, hE⟩ := hv
  have hx := B.exec
  have hb := B.bytes
  have hr := B.returns
  have hts := atoms_spec (ws := w_Side_width) B.pre
  have hts : ∀ w ∈ tb, w.before _ s = true := fun w h => hts w (List.mem_cons_of_mem _ h)
  have hown : s.vm.findClass R_Side = some m.cls := findClass_of_methodNamed B.named
  have hlocks := B.notSynchronized
  subst hsz
  have hD := hD0.self (sz := s.heap.size)
  generalize hAe : va_A ([] ++ va_pl L (gE cO G)) s.heap.size = A at hD hF hE ⊢
  have hA : ∀ q : Nat, s.heap.size ≤ q → A q := fun q h => by rw [← hAe]; exact Or.inr h
  have hS : va_S A s.heap s.heap [] := va_S.rf
  have hP : va_P (dC, dI) cl ([] ++ va_pl L (gE cO G)) s.heap := hP
  have hl := lv_entry ([.ref a, .int (nI n)]) (n := 2) (Nat.le_of_ble_eq_true rfl)
  rw [lg_entry_eq]
  generalize (lg_sl ([.ref a, .int (nI n)]) ++ List.replicate (2 - (lg_sl ([.ref a, .int (nI n)])).length) Slot.unset).toArray = ls at hl ⊢
  have hl : lv_has ls 2 [(0, .ref a), (1, .int (nI n))] := hl
  refine lv_aload_n hx hb d_Side_width_0 rfl (lv_at hl 0 rfl) ?_
  refine wd_i (cx := []) (wr := []) (pl := va_pl L (gE cO G)) (va_runV (As := []) (rest := []) ⟨hx, hb, hml, hown, hts⟩ (p_Side_hasRange l dC dI cB cI cL cZ cC cO a t0 _ hL ha ho) (cwV 0 hts (good_V k_710 k_711 k_712 k_21 k_713) rfl rfl rfl (by decide +kernel) ⟨Nat.le_of_ble_eq_true rfl, Nat.le_of_ble_eq_true rfl⟩) (wd_preV (ci := 11) (r := (R_Side, F_Side, 5)) hK hP hD hS hA hF hE [] (by decide) rfl rfl (pq_at (gL_m hL ha (by decide)) (gE_3 (G := G) ha))) rfl rfl hl.1 rfl (lv_room (Nat.le_of_ble_eq_true rfl)) d_Side_width_1 ⟨Nat.le_of_ble_eq_true rfl, Nat.le_of_ble_eq_true rfl⟩) hP hD hS hA [] [] rfl rfl (by decide) (by decide) (fun r_2 _ H locs w_1 hP hD hS => ?_)
  have hP : va_P (dC, dI) cl ([] ++ va_pl L (gE cO G)) H := hP
  have hD : va_D A ([] ++ va_pl L (gE cO G)) := hD
  subst w_1
  refine nv_bif_eq (tgt := 21) hx hb d_Side_width_4 (by decide) (fun c_3 => ?_) (fun c_3 => ?_)
  · refine lv_iload_n hx hb d_Side_width_21 rfl (lv_at hl 1 rfl) ?_
    exact wr_i hx hb hr hlocks () (congrArg nI (by unfold m_bits; first | (rw [if_pos (by simpa using c_3)]) | (rw [if_neg (by simpa using c_3)]))) hK hP hD hS d_Side_width_22
  · refine lv_aload_n hx hb d_Side_width_7 rfl (lv_at hl 0 rfl) ?_
    refine pq_get (D := (dC, dI)) (ci := 11) (v := .int (nI (G.2.1 a 4))) (C := R_Side) (T := F_Side) (N := 5) hx hb hts i_Side hown hK hP (gL_m hL ha (by decide)) (gE_3 (G := G) ha) rfl 4 (by decide) (hts _ k_625) (fun _ h9 => h9) rfl d_Side_width_8 ?_
    refine lv_aload_n hx hb d_Side_width_11 rfl (lv_at hl 0 rfl) ?_
    refine pq_get (D := (dC, dI)) (ci := 11) (v := .int (nI (G.2.1 a 3))) (C := R_Side) (T := F_Side) (N := 5) hx hb hts i_Side hown hK hP (gL_m hL ha (by decide)) (gE_3 (G := G) ha) rfl 3 (by decide) (hts _ k_622) (fun _ h9 => h9) rfl d_Side_width_12 ?_
    refine nv_isub hx hb (by omega) d_Side_width_15 ?_
    refine lv_iconst (v := nI 1) hx hb d_Side_width_16 (by decide) ?_
    refine nv_iadd hx hb d_Side_width_17 ?_
    refine lv_goto (tgt := 22) hx hb d_Side_width_18 (by decide) ?_
    exact wr_i hx hb hr hlocks () (congrArg nI (by unfold m_bits; first | (rw [if_pos (by simpa using c_3)]) | (rw [if_neg (by simpa using c_3)]))) hK hP hD hS d_Side_width_22
set_option maxHeartbeats 4000000 in
set_option maxRecDepth 100000 in
/-- bitMask(n) -/
theorem p_Side_bitMask (l : Launch) (dC : Nat → ClassId) (dI : Nat → Nat → Nat) (cB cI cL cZ cC cO : ClassId) {L : List Nat} {G : PG} (a n : Nat) (t0 sz : Nat) (hL : gL L G) (ha : G.1 a = 3) (ho : ∀ z, G.2.2.1 a 2 = some z → z < 2 ^ 31) (hlo : G.2.1 a 3 < 100) (hhi : G.2.1 a 4 < 100) (hlh : G.2.1 a 3 ≤ G.2.1 a 4) : Met l y_Side_bitMask w_Side_bitMask ({ frames := 2, cells := 0, slots := 0, locals := 80 }) (va_Pc [.ref a, .int (nI n)] (wB2 (dC, dI) cl [(cB, .byte), (cI, .int), (cL, .long), (cZ, .boolean), (cC, .char), (cO, .object "java/lang/Object")] sz t0 ([] ++ va_pl L (gE cO G)))) (va_Qi (fun (r : Int32) (u : Unit) => r = sd_mask (G.2.2.1 a 2) (G.2.1 a 3) (G.2.1 a 4) n) (fun _ t => wA (dC, dI) cl [(cB, .byte), (cI, .int), (cL, .long), (cZ, .boolean), (cC, .char), (cO, .object "java/lang/Object")] (va_A ([] ++ va_pl L (gE cO G)) sz) ([] ++ va_pl L (gE cO G)) t) (va_A ([] ++ va_pl L (gE cO G)) sz)) 0 0 (va_A ([] ++ va_pl L (gE cO G)) sz) := by
  refine Met.ofW (cc := b_Side_bitMask) (maxL := 2) (ret := (some ClassFile.FieldType.int)) (by decide) rfl ?_
  intro p e s m args below meth c s₁ B hml hv
  obtain ⟨rfl, ⟨hsz, hP, hK, hD0, hF⟩, hE⟩ := hv
  have hx := B.exec
  have hb := B.bytes
  have hr := B.returns
  have hts := atoms_spec (ws := w_Side_bitMask) B.pre
  have hts : ∀ w ∈ tb, w.before _ s = true := fun w h => hts w (List.mem_cons_of_mem _ h)
  have hown : s.vm.findClass R_Side = some m.cls := findClass_of_methodNamed B.named
  have hlocks := B.notSynchronized
  subst hsz
  have hD := hD0.self (sz := s.heap.size)
  generalize hAe : va_A ([] ++ va_pl L (gE cO G)) s.heap.size = A at hD hF hE ⊢
  have hA : ∀ q : Nat, s.heap.size ≤ q → A q := fun q h => by rw [← hAe]; exact Or.inr h
  have hS : va_S A s.heap s.heap [] := va_S.rf
  have hP : va_P (dC, dI) cl ([] ++ va_pl L (gE cO G)) s.heap := hP
  have hl := lv_entry ([.ref a, .int (nI n)]) (n := 2) (Nat.le_of_ble_eq_true rfl)
  rw [lg_entry_eq]
  generalize (lg_sl ([.ref a, .int (nI n)]) ++ List.replicate (2 - (lg_sl ([.ref a, .int (nI n)])).length) Slot.unset).toArray = ls at hl ⊢
  have hl : lv_has ls 2 [(0, .ref a), (1, .int (nI n))] := hl
  refine lv_iconst (v := nI 1) hx hb d_Side_bitMask_0 (by decide) ?_
  refine lv_aload_n hx hb d_Side_bitMask_1 rfl (lv_at hl 0 rfl) ?_
  refine lv_iload_n hx hb d_Side_bitMask_2 rfl (lv_at hl 1 rfl) ?_
  refine wd_i (cx := []) (wr := []) (pl := va_pl L (gE cO G)) (va_runV (As := [.int (nI n)]) (rest := [.int (nI 1)]) ⟨hx, hb, hml, hown, hts⟩ (p_Side_width l dC dI cB cI cL cZ cC cO a n t0 _ hL ha ho hlo hhi hlh) (cwV 1 hts (good_V k_747 k_715 k_716 k_21 k_717) rfl rfl rfl (by decide +kernel) ⟨Nat.le_of_ble_eq_true rfl, Nat.le_of_ble_eq_true rfl⟩) (wd_preV (ci := 11) (r := (R_Side, F_Side, 5)) hK hP hD hS hA hF hE [] (by decide) rfl rfl (pq_at (gL_m hL ha (by decide)) (gE_3 (G := G) ha))) rfl rfl hl.1 rfl (lv_room (Nat.le_of_ble_eq_true rfl)) d_Side_bitMask_3 ⟨Nat.le_of_ble_eq_true rfl, Nat.le_of_ble_eq_true rfl⟩) hP hD hS hA [] [] rfl rfl (by decide) (by decide) (fun r_2 _ H locs w_1 hP hD hS => ?_)
  have hP : va_P (dC, dI) cl ([] ++ va_pl L (gE cO G)) H := hP
  have hD : va_D A ([] ++ va_pl L (gE cO G)) := hD
  subst w_1
  refine lv_ishl hx hb d_Side_bitMask_6 ?_
  refine lv_iconst (v := nI 1) hx hb d_Side_bitMask_7 (by decide) ?_
  refine lv_isub hx hb d_Side_bitMask_8 ?_
  refine lv_aload_n hx hb d_Side_bitMask_9 rfl (lv_at hl 0 rfl) ?_
  refine pq_get (D := (dC, dI)) (ci := 11) (v := .int (nI (G.2.1 a 3))) (C := R_Side) (T := F_Side) (N := 5) hx hb hts i_Side hown hK hP (gL_m hL ha (by decide)) (gE_3 (G := G) ha) rfl 3 (by decide) (hts _ k_622) (fun _ h9 => h9) rfl d_Side_bitMask_10 ?_
  refine lv_ishl hx hb d_Side_bitMask_13 ?_
  exact wr_i hx hb hr hlocks () rfl hK hP hD hS d_Side_bitMask_14
set_option maxHeartbeats 4000000 in
set_option maxRecDepth 100000 in
/-- setWidth(n, y) -/
theorem p_Wire_setWidth (l : Launch) (dC : Nat → ClassId) (dI : Nat → Nat → Nat) (cB cI cL cZ cC cO : ClassId) {L : List Nat} {G : PG} (a n y : Nat) (t0 sz : Nat) (hL : gL L G) (ha : G.1 a = 2) (hn : n < 2 ^ 31) : Met l y_Wire_setWidth w_Wire_setWidth ({ frames := 0, cells := 0, slots := 0, locals := 0 }) (va_Pc [.ref a, .int (nI n), .int (nI y)] (wB2 (dC, dI) cl [(cB, .byte), (cI, .int), (cL, .long), (cZ, .boolean), (cC, .char), (cO, .object "java/lang/Object")] sz t0 ([] ++ va_pl L (gE cO G)))) (va_Qv (fun (u : PG) => u = if n < 1 ∨ 16 < n then gO G a 3 (some y) else gN G a 2 n) (fun u t => wA (dC, dI) cl [(cB, .byte), (cI, .int), (cL, .long), (cZ, .boolean), (cC, .char), (cO, .object "java/lang/Object")] (va_A ([] ++ va_pl L (gE cO G)) sz) ([] ++ va_pl L (gE cO u)) t) (va_A ([] ++ va_pl L (gE cO G)) sz)) 0 0 (va_A ([] ++ va_pl L (gE cO G)) sz) := by
  refine Met.ofW (cc := b_Wire_setWidth) (maxL := 3) (ret := none) (by decide) rfl ?_
  intro p e s m args below meth c s₁ B hml hv
  obtain ⟨rfl, ⟨hsz, hP, hK, hD0, hF⟩, hE⟩ := hv
  have hx := B.exec
  have hb := B.bytes
  have hr := B.returns
  have hts := atoms_spec (ws := w_Wire_setWidth) B.pre
  have hts : ∀ w ∈ tb, w.before _ s = true := fun w h => hts w (List.mem_cons_of_mem _ h)
  have hown : s.vm.findClass R_Wire = some m.cls := findClass_of_methodNamed B.named
  have hlocks := B.notSynchronized
  subst hsz
  have hD := hD0.self (sz := s.heap.size)
  generalize hAe : va_A ([] ++ va_pl L (gE cO G)) s.heap.size = A at hD hF hE ⊢
  have hA : ∀ q : Nat, s.heap.size ≤ q → A q := fun q h => by rw [← hAe]; exact Or.inr h
  have hS : va_S A s.heap s.heap [] := va_S.rf
  have hP : va_P (dC, dI) cl ([] ++ va_pl L (gE cO G)) s.heap := hP
  have hl := lv_entry ([.ref a, .int (nI n), .int (nI y)]) (n := 3) (Nat.le_of_ble_eq_true rfl)
  rw [lg_entry_eq]
  generalize (lg_sl ([.ref a, .int (nI n), .int (nI y)]) ++ List.replicate (3 - (lg_sl ([.ref a, .int (nI n), .int (nI y)])).length) Slot.unset).toArray = ls at hl ⊢
  have hl : lv_has ls 3 [(0, .ref a), (1, .int (nI n)), (2, .int (nI y))] := hl
  refine lv_iload_n hx hb d_Wire_setWidth_0 rfl (lv_at hl 1 rfl) ?_
  refine lv_iconst (v := nI 1) hx hb d_Wire_setWidth_1 (by decide) ?_
  refine nv_icmp_lt (tgt := 11) hx hb (by omega) (by omega) d_Wire_setWidth_2 (by decide) (fun c_1 => ?_) (fun c_1 => ?_)
  · refine lv_aload_n hx hb d_Wire_setWidth_11 rfl (lv_at hl 0 rfl) ?_
    refine lv_iload_n hx hb d_Wire_setWidth_12 rfl (lv_at hl 2 rfl) ?_
    refine pq_put (D := (dC, dI)) (ci := 8) (v := .int (oI (some y))) (ty := .int) (C := R_Wire) (T := F_Wire) (N := 7) hx hb hts i_Wire t_Wire t_Wire_ok n_Wire hown hK hP hD hS (gL_m hL ha (by decide)) (gE_2 (G := G) ha) rfl 3 (by decide) (hts _ k_225) (fun _ h9 => h9) rfl (by decide +kernel) rfl rfl (Nat.le_of_ble_eq_true rfl) (uE_2_3 (G := G) (v := some y) ha) d_Wire_setWidth_13 (fun H locs hP hD hS => ?_)
    have hP : va_P (dC, dI) cl ([] ++ va_pl L (gE cO (gO G a 3 (some y)))) H := hP
    have hD : va_D A ([] ++ va_pl L (gE cO (gO G a 3 (some y)))) := hD
    refine lv_goto (tgt := 24) hx hb d_Wire_setWidth_16 (by decide) ?_
    exact wr_v hx hb hr hlocks (gO G a 3 (some y)) (by rw [if_pos (by omega)]) hK hP hD hS d_Wire_setWidth_24
  · refine lv_iload_n hx hb d_Wire_setWidth_5 rfl (lv_at hl 1 rfl) ?_
    refine lv_bipush (v := nI 16) hx hb d_Wire_setWidth_6 (by decide) ?_
    refine nv_icmp_le (tgt := 19) hx hb (by omega) (by omega) d_Wire_setWidth_8 (by decide) (fun c_2 => ?_) (fun c_2 => ?_)
    · refine lv_aload_n hx hb d_Wire_setWidth_19 rfl (lv_at hl 0 rfl) ?_
      refine lv_iload_n hx hb d_Wire_setWidth_20 rfl (lv_at hl 1 rfl) ?_
      refine pq_put (D := (dC, dI)) (ci := 8) (v := .int (nI n)) (ty := .int) (C := R_Wire) (T := F_Wire) (N := 7) hx hb hts i_Wire t_Wire t_Wire_ok n_Wire hown hK hP hD hS (gL_m hL ha (by decide)) (gE_2 (G := G) ha) rfl 2 (by decide) (hts _ k_221) (fun _ h9 => h9) rfl (by decide +kernel) rfl rfl (Nat.le_of_ble_eq_true rfl) (uE_2_2 (G := G) (v := n) ha) d_Wire_setWidth_21 (fun H locs hP hD hS => ?_)
      have hP : va_P (dC, dI) cl ([] ++ va_pl L (gE cO (gN G a 2 n))) H := hP
      have hD : va_D A ([] ++ va_pl L (gE cO (gN G a 2 n))) := hD
      exact wr_v hx hb hr hlocks (gN G a 2 n) (by rw [if_neg (by omega)]) hK hP hD hS d_Wire_setWidth_24
    · refine lv_aload_n hx hb d_Wire_setWidth_11 rfl (lv_at hl 0 rfl) ?_
      refine lv_iload_n hx hb d_Wire_setWidth_12 rfl (lv_at hl 2 rfl) ?_
      refine pq_put (D := (dC, dI)) (ci := 8) (v := .int (oI (some y))) (ty := .int) (C := R_Wire) (T := F_Wire) (N := 7) hx hb hts i_Wire t_Wire t_Wire_ok n_Wire hown hK hP hD hS (gL_m hL ha (by decide)) (gE_2 (G := G) ha) rfl 3 (by decide) (hts _ k_225) (fun _ h9 => h9) rfl (by decide +kernel) rfl rfl (Nat.le_of_ble_eq_true rfl) (uE_2_3 (G := G) (v := some y) ha) d_Wire_setWidth_13 (fun H locs hP hD hS => ?_)
      have hP : va_P (dC, dI) cl ([] ++ va_pl L (gE cO (gO G a 3 (some y)))) H := hP
      have hD : va_D A ([] ++ va_pl L (gE cO (gO G a 3 (some y)))) := hD
      refine lv_goto (tgt := 24) hx hb d_Wire_setWidth_16 (by decide) ?_
      exact wr_v hx hb hr hlocks (gO G a 3 (some y)) (by rw [if_pos (by omega)]) hK hP hD hS d_Wire_setWidth_24
theorem d_Name_same_0 : decode b_Name_same 0 = .ok (.aload_n 0, 1) := by decide +kernel
theorem d_Name_same_1 : decode b_Name_same 1 = .ok (.getfield 7, 3) := by decide +kernel
theorem d_Name_same_4 : decode b_Name_same 4 = .ok (.aload_n 1, 1) := by decide +kernel
theorem d_Name_same_5 : decode b_Name_same 5 = .ok (.getfield 7, 3) := by decide +kernel
theorem d_Name_same_8 : decode b_Name_same 8 = .ok (.lcmp, 1) := by decide +kernel
theorem d_Name_same_9 : decode b_Name_same 9 = .ok (.ifCond .ne 19, 3) := by decide +kernel
theorem d_Name_same_12 : decode b_Name_same 12 = .ok (.aload_n 0, 1) := by decide +kernel
theorem d_Name_same_13 : decode b_Name_same 13 = .ok (.getfield 13, 3) := by decide +kernel
theorem d_Name_same_16 : decode b_Name_same 16 = .ok (.aload_n 1, 1) := by decide +kernel
theorem d_Name_same_17 : decode b_Name_same 17 = .ok (.getfield 13, 3) := by decide +kernel
theorem d_Name_same_20 : decode b_Name_same 20 = .ok (.lcmp, 1) := by decide +kernel
theorem d_Name_same_21 : decode b_Name_same 21 = .ok (.ifCond .ne 7, 3) := by decide +kernel
theorem d_Name_same_24 : decode b_Name_same 24 = .ok (.iconst 1, 1) := by decide +kernel
theorem d_Name_same_25 : decode b_Name_same 25 = .ok (.goto 4, 3) := by decide +kernel
theorem d_Name_same_28 : decode b_Name_same 28 = .ok (.iconst 0, 1) := by decide +kernel
theorem d_Name_same_29 : decode b_Name_same 29 = .ok (.ireturn, 1) := by decide +kernel
set_option maxHeartbeats 4000000 in
set_option maxRecDepth 100000 in
/-- same(other) -/
theorem p_Name_same (l : Launch) (dC : Nat → ClassId) (dI : Nat → Nat → Nat) (cB cI cL cZ cC cO : ClassId) {L : List Nat} {G : PG} (a b : Nat) (t0 sz : Nat) (hL : gL L G) (ha : G.1 a = 1) (hb0 : G.1 b = 1) : Met l y_Name_same w_Name_same ({ frames := 0, cells := 0, slots := 0, locals := 0 }) (va_Pc [.ref a, .ref b] (wB2 (dC, dI) cl [(cB, .byte), (cI, .int), (cL, .long), (cZ, .boolean), (cC, .char), (cO, .object "java/lang/Object")] sz t0 ([] ++ va_pl L (gE cO G)))) (va_Qi (fun (r : Int32) (u : Unit) => r = bI (decide (G.2.2.2.2.1 a 0 = G.2.2.2.2.1 b 0) && decide (G.2.2.2.2.1 a 1 = G.2.2.2.2.1 b 1))) (fun _ t => wA (dC, dI) cl [(cB, .byte), (cI, .int), (cL, .long), (cZ, .boolean), (cC, .char), (cO, .object "java/lang/Object")] (va_A ([] ++ va_pl L (gE cO G)) sz) ([] ++ va_pl L (gE cO G)) t) (va_A ([] ++ va_pl L (gE cO G)) sz)) 0 0 (va_A ([] ++ va_pl L (gE cO G)) sz) := by
  refine Met.ofW (cc := b_Name_same) (maxL := 2) (ret := (some ClassFile.FieldType.boolean)) (by decide) rfl ?_
  intro p e s m args below meth c s₁ B hml hv
  obtain ⟨rfl, ⟨hsz, hP, hK, hD0, hF⟩, hE⟩ := hv
  have hx := B.exec
  have hb := B.bytes
  have hr := B.returns
  have hts := atoms_spec (ws := w_Name_same) B.pre
  have hts : ∀ w ∈ tb, w.before _ s = true := fun w h => hts w (List.mem_cons_of_mem _ h)
  have hown : s.vm.findClass R_Name = some m.cls := findClass_of_methodNamed B.named
  have hlocks := B.notSynchronized
  subst hsz
  have hD := hD0.self (sz := s.heap.size)
  generalize hAe : va_A ([] ++ va_pl L (gE cO G)) s.heap.size = A at hD hF hE ⊢
  have hA : ∀ q : Nat, s.heap.size ≤ q → A q := fun q h => by rw [← hAe]; exact Or.inr h
  have hS : va_S A s.heap s.heap [] := va_S.rf
  have hP : va_P (dC, dI) cl ([] ++ va_pl L (gE cO G)) s.heap := hP
  have hl := lv_entry ([.ref a, .ref b]) (n := 2) (Nat.le_of_ble_eq_true rfl)
  rw [lg_entry_eq]
  generalize (lg_sl ([.ref a, .ref b]) ++ List.replicate (2 - (lg_sl ([.ref a, .ref b])).length) Slot.unset).toArray = ls at hl ⊢
  have hl : lv_has ls 2 [(0, .ref a), (1, .ref b)] := hl
  refine lv_aload_n hx hb d_Name_same_0 rfl (lv_at hl 0 rfl) ?_
  refine pq_get (D := (dC, dI)) (ci := 7) (v := .long (G.2.2.2.2.1 a 0)) (C := R_Name) (T := F_Name) (N := 3) hx hb hts i_Name hown hK hP (gL_m hL ha (by decide)) (gE_1 (G := G) ha) rfl 0 (by decide) (hts _ k_147) (fun _ h9 => h9) rfl d_Name_same_1 ?_
  refine lv_aload_n hx hb d_Name_same_4 rfl (lv_at hl 1 rfl) ?_
  refine pq_get (D := (dC, dI)) (ci := 7) (v := .long (G.2.2.2.2.1 b 0)) (C := R_Name) (T := F_Name) (N := 3) hx hb hts i_Name hown hK hP (gL_m hL hb0 (by decide)) (gE_1 (G := G) hb0) rfl 0 (by decide) (hts _ k_147) (fun _ h9 => h9) rfl d_Name_same_5 ?_
  refine W.lcmp hx hb d_Name_same_8 ?_
  refine nv_lif_ne (tgt := 28) hx hb d_Name_same_9 (by decide) (fun c_1 => ?_) (fun c_1 => ?_)
  · refine lv_iconst (v := nI 0) hx hb d_Name_same_28 (by decide) ?_
    exact wr_z (x := false) hx hb hr hlocks () (congrArg bI (by simp [c_1])) hK hP hD hS d_Name_same_29
  · refine lv_aload_n hx hb d_Name_same_12 rfl (lv_at hl 0 rfl) ?_
    refine pq_get (D := (dC, dI)) (ci := 7) (v := .long (G.2.2.2.2.1 a 1)) (C := R_Name) (T := F_Name) (N := 3) hx hb hts i_Name hown hK hP (gL_m hL ha (by decide)) (gE_1 (G := G) ha) rfl 1 (by decide) (hts _ k_148) (fun _ h9 => h9) rfl d_Name_same_13 ?_
    refine lv_aload_n hx hb d_Name_same_16 rfl (lv_at hl 1 rfl) ?_
    refine pq_get (D := (dC, dI)) (ci := 7) (v := .long (G.2.2.2.2.1 b 1)) (C := R_Name) (T := F_Name) (N := 3) hx hb hts i_Name hown hK hP (gL_m hL hb0 (by decide)) (gE_1 (G := G) hb0) rfl 1 (by decide) (hts _ k_148) (fun _ h9 => h9) rfl d_Name_same_17 ?_
    refine W.lcmp hx hb d_Name_same_20 ?_
    refine nv_lif_ne (tgt := 28) hx hb d_Name_same_21 (by decide) (fun c_2 => ?_) (fun c_2 => ?_)
    · refine lv_iconst (v := nI 0) hx hb d_Name_same_28 (by decide) ?_
      exact wr_z (x := false) hx hb hr hlocks () (congrArg bI (by simp [c_1, c_2])) hK hP hD hS d_Name_same_29
    · refine lv_iconst (v := nI 1) hx hb d_Name_same_24 (by decide) ?_
      refine lv_goto (tgt := 29) hx hb d_Name_same_25 (by decide) ?_
      exact wr_z (x := true) hx hb hr hlocks () (congrArg bI (by simp [c_1, c_2])) hK hP hD hS d_Name_same_29
