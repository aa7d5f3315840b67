/-- the fault's two numbers behind a check -/
def fpr (o : Option (Nat × Option Nat)) (v0 v1 : Value) : Value × Value := match o with
  | none => (v0, v1)
  | some q => (.int (nI q.1), .int (oI q.2))
/-- checkSource: nothing, or a fault and its place; np: the place of the right side's name -/
def cks (G : PG) (wo : Option Nat) (s n : Nat) (np : Option Nat) : Option (Nat × Option Nat) := match wo with
  | none => none
  | some w => if G.2.1 w 1 = 1 ∨ (G.2.1 w 1 = 2 ∧ G.2.2.2.1 w 6 = false) then some (4, np) else if rir G w s = true then (if G.2.1 w 2 = 0 ∨ m_bits (G.2.2.1 s 2) (G.2.1 s 3) (G.2.1 s 4) (G.2.1 w 2) = n then none else some (5, np)) else some (5, G.2.2.1 s 2)
theorem rir_le {G : PG} {w s : Nat} (h : rir G w s = true) : ¬ G.2.2.1 s 2 = none → G.2.1 s 3 ≤ G.2.1 s 4 := fun q => by
  unfold rir at h
  by_cases e : G.2.1 w 1 = 2
  · rw [if_pos e] at h; exact absurd (of_decide_eq_true h) q
  · rw [if_neg e] at h; exact fits_le h q
theorem d_Checker_checkSource_0 : decode b_Checker_checkSource 0 = .ok (.aload_n 1, 1) := by decide +kernel
theorem d_Checker_checkSource_1 : decode b_Checker_checkSource 1 = .ok (.ifnonnull 5, 3) := by decide +kernel
theorem d_Checker_checkSource_4 : decode b_Checker_checkSource 4 = .ok (.iconst 1, 1) := by decide +kernel
theorem d_Checker_checkSource_5 : decode b_Checker_checkSource 5 = .ok (.ireturn, 1) := by decide +kernel
theorem d_Checker_checkSource_6 : decode b_Checker_checkSource 6 = .ok (.aload_n 1, 1) := by decide +kernel
theorem d_Checker_checkSource_7 : decode b_Checker_checkSource 7 = .ok (.getfield 128, 3) := by decide +kernel
theorem d_Checker_checkSource_10 : decode b_Checker_checkSource 10 = .ok (.iconst 1, 1) := by decide +kernel
theorem d_Checker_checkSource_11 : decode b_Checker_checkSource 11 = .ok (.if_icmp .eq 18, 3) := by decide +kernel
theorem d_Checker_checkSource_14 : decode b_Checker_checkSource 14 = .ok (.aload_n 1, 1) := by decide +kernel
theorem d_Checker_checkSource_15 : decode b_Checker_checkSource 15 = .ok (.getfield 128, 3) := by decide +kernel
theorem d_Checker_checkSource_18 : decode b_Checker_checkSource 18 = .ok (.iconst 2, 1) := by decide +kernel
theorem d_Checker_checkSource_19 : decode b_Checker_checkSource 19 = .ok (.if_icmp .ne 26, 3) := by decide +kernel
theorem d_Checker_checkSource_22 : decode b_Checker_checkSource 22 = .ok (.aload_n 1, 1) := by decide +kernel
theorem d_Checker_checkSource_23 : decode b_Checker_checkSource 23 = .ok (.getfield 133, 3) := by decide +kernel
theorem d_Checker_checkSource_26 : decode b_Checker_checkSource 26 = .ok (.ifCond .ne 19, 3) := by decide +kernel
theorem d_Checker_checkSource_29 : decode b_Checker_checkSource 29 = .ok (.aload_n 0, 1) := by decide +kernel
theorem d_Checker_checkSource_30 : decode b_Checker_checkSource 30 = .ok (.getfield 33, 3) := by decide +kernel
theorem d_Checker_checkSource_33 : decode b_Checker_checkSource 33 = .ok (.iconst 4, 1) := by decide +kernel
theorem d_Checker_checkSource_34 : decode b_Checker_checkSource 34 = .ok (.aload_n 2, 1) := by decide +kernel
theorem d_Checker_checkSource_35 : decode b_Checker_checkSource 35 = .ok (.getfield 110, 3) := by decide +kernel
theorem d_Checker_checkSource_38 : decode b_Checker_checkSource 38 = .ok (.getfield 57, 3) := by decide +kernel
theorem d_Checker_checkSource_41 : decode b_Checker_checkSource 41 = .ok (.invokevirtual 63, 3) := by decide +kernel
theorem d_Checker_checkSource_44 : decode b_Checker_checkSource 44 = .ok (.ireturn, 1) := by decide +kernel
theorem d_Checker_checkSource_45 : decode b_Checker_checkSource 45 = .ok (.aload_n 1, 1) := by decide +kernel
theorem d_Checker_checkSource_46 : decode b_Checker_checkSource 46 = .ok (.aload_n 2, 1) := by decide +kernel
theorem d_Checker_checkSource_47 : decode b_Checker_checkSource 47 = .ok (.invokestatic 177, 3) := by decide +kernel
theorem d_Checker_checkSource_50 : decode b_Checker_checkSource 50 = .ok (.ifCond .ne 16, 3) := by decide +kernel
theorem d_Checker_checkSource_53 : decode b_Checker_checkSource 53 = .ok (.aload_n 0, 1) := by decide +kernel
theorem d_Checker_checkSource_54 : decode b_Checker_checkSource 54 = .ok (.getfield 33, 3) := by decide +kernel
theorem d_Checker_checkSource_57 : decode b_Checker_checkSource 57 = .ok (.iconst 5, 1) := by decide +kernel
theorem d_Checker_checkSource_58 : decode b_Checker_checkSource 58 = .ok (.aload_n 2, 1) := by decide +kernel
theorem d_Checker_checkSource_59 : decode b_Checker_checkSource 59 = .ok (.getfield 158, 3) := by decide +kernel
theorem d_Checker_checkSource_62 : decode b_Checker_checkSource 62 = .ok (.invokevirtual 63, 3) := by decide +kernel
theorem d_Checker_checkSource_65 : decode b_Checker_checkSource 65 = .ok (.ireturn, 1) := by decide +kernel
theorem d_Checker_checkSource_66 : decode b_Checker_checkSource 66 = .ok (.aload_n 1, 1) := by decide +kernel
theorem d_Checker_checkSource_67 : decode b_Checker_checkSource 67 = .ok (.getfield 137, 3) := by decide +kernel
theorem d_Checker_checkSource_70 : decode b_Checker_checkSource 70 = .ok (.ifCond .eq 15, 3) := by decide +kernel
theorem d_Checker_checkSource_73 : decode b_Checker_checkSource 73 = .ok (.aload_n 2, 1) := by decide +kernel
theorem d_Checker_checkSource_74 : decode b_Checker_checkSource 74 = .ok (.aload_n 1, 1) := by decide +kernel
theorem d_Checker_checkSource_75 : decode b_Checker_checkSource 75 = .ok (.getfield 137, 3) := by decide +kernel
theorem d_Checker_checkSource_78 : decode b_Checker_checkSource 78 = .ok (.invokevirtual 144, 3) := by decide +kernel
theorem d_Checker_checkSource_81 : decode b_Checker_checkSource 81 = .ok (.iload_n 3, 1) := by decide +kernel
theorem d_Checker_checkSource_82 : decode b_Checker_checkSource 82 = .ok (.if_icmp .ne 5, 3) := by decide +kernel
theorem d_Checker_checkSource_85 : decode b_Checker_checkSource 85 = .ok (.iconst 1, 1) := by decide +kernel
theorem d_Checker_checkSource_86 : decode b_Checker_checkSource 86 = .ok (.ireturn, 1) := by decide +kernel
theorem d_Checker_checkSource_87 : decode b_Checker_checkSource 87 = .ok (.aload_n 0, 1) := by decide +kernel
theorem d_Checker_checkSource_88 : decode b_Checker_checkSource 88 = .ok (.getfield 33, 3) := by decide +kernel
theorem d_Checker_checkSource_91 : decode b_Checker_checkSource 91 = .ok (.iconst 5, 1) := by decide +kernel
theorem d_Checker_checkSource_92 : decode b_Checker_checkSource 92 = .ok (.aload_n 2, 1) := by decide +kernel
theorem d_Checker_checkSource_93 : decode b_Checker_checkSource 93 = .ok (.getfield 110, 3) := by decide +kernel
theorem d_Checker_checkSource_96 : decode b_Checker_checkSource 96 = .ok (.getfield 57, 3) := by decide +kernel
theorem d_Checker_checkSource_99 : decode b_Checker_checkSource 99 = .ok (.invokevirtual 63, 3) := by decide +kernel
theorem d_Checker_checkSource_102 : decode b_Checker_checkSource 102 = .ok (.ireturn, 1) := by decide +kernel
set_option maxHeartbeats 4000000 in
set_option maxRecDepth 100000 in
/-- checkSource(wire, side, n) -/
theorem p_Checker_checkSourceN (l : Launch) (dC : Nat → ClassId) (dI : Nat → Nat → Nat) (cB cI cL cZ cC cO : ClassId) (qx qc qf na df qi : Nat) (v0 v1 : Value) {L : List Nat} {G : PG} (s0 n nm : Nat) (t0 sz : Nat) (hL : gL L G) (hs : G.1 s0 = 3) (ho : ∀ z, G.2.2.1 s0 2 = some z → z < 2 ^ 31) (hlo : G.2.1 s0 3 < 100) (hhi : G.2.1 s0 4 < 100) (hsn : G.2.2.2.2.2 s0 0 = some nm) (hnm : G.1 nm = 1) (hn : n < 2 ^ 31) (hpl : ∀ z, (G.2.2.1 nm 2) = some z → z < 2 ^ 31) : Met l y_Checker_checkSource w_Checker_checkSource ({ frames := 3, cells := 0, slots := 0, locals := 130 }) (va_Pc [.ref qx, .null, .ref s0, .int (nI n)] (wB2 (dC, dI) cl [(cB, .byte), (cI, .int), (cL, .long), (cZ, .boolean), (cC, .char), (cO, .object "java/lang/Object")] sz t0 ([(qx, .inr (5, [.ref qc, .ref qf, .ref na, .ref df, .ref qi])), (qf, .inr (2, [v0, v1]))] ++ va_pl L (gE cO G)))) (va_Qi (fun (r : Int32) (u : Value × Value) => r = bI (decide (cks G none s0 n (G.2.2.1 nm 2) = none)) ∧ u = fpr (cks G none s0 n (G.2.2.1 nm 2)) v0 v1) (fun u t => wA (dC, dI) cl [(cB, .byte), (cI, .int), (cL, .long), (cZ, .boolean), (cC, .char), (cO, .object "java/lang/Object")] (va_A ([(qx, .inr (5, [.ref qc, .ref qf, .ref na, .ref df, .ref qi])), (qf, .inr (2, [v0, v1]))] ++ va_pl L (gE cO G)) sz) ([(qx, .inr (5, [.ref qc, .ref qf, .ref na, .ref df, .ref qi])), (qf, .inr (2, [u.1, u.2]))] ++ va_pl L (gE cO G)) t) (va_A ([(qx, .inr (5, [.ref qc, .ref qf, .ref na, .ref df, .ref qi])), (qf, .inr (2, [v0, v1]))] ++ va_pl L (gE cO G)) sz)) 0 0 (va_A ([(qx, .inr (5, [.ref qc, .ref qf, .ref na, .ref df, .ref qi])), (qf, .inr (2, [v0, v1]))] ++ va_pl L (gE cO G)) sz) := by
  refine Met.ofW (cc := b_Checker_checkSource) (maxL := 4) (ret := (some ClassFile.FieldType.boolean)) (by decide) rfl ?_
  intro p e s m args below meth c s₁ B hml hv
  obtain ⟨rfl, ⟨hsz, hP, hK, hD0, hF⟩, hE⟩ := hv
  have hx := B.exec
  have hb := B.bytes
  have hr := B.returns
  have hts := atoms_spec (ws := w_Checker_checkSource) B.pre
  have hts : ∀ w ∈ tb, w.before _ s = true := fun w h => hts w (List.mem_cons_of_mem _ h)
  have hown : s.vm.findClass R_Checker = some m.cls := findClass_of_methodNamed B.named
  have hlocks := B.notSynchronized
  subst hsz
  have hD := hD0.self (sz := s.heap.size)
  generalize hAe : va_A ([(qx, .inr (5, [.ref qc, .ref qf, .ref na, .ref df, .ref qi])), (qf, .inr (2, [v0, v1]))] ++ va_pl L (gE cO G)) s.heap.size = A at hD hF hE ⊢
  have hA : ∀ q : Nat, s.heap.size ≤ q → A q := fun q h => by rw [← hAe]; exact Or.inr h
  have hS : va_S A s.heap s.heap [] := va_S.rf
  have hP : va_P (dC, dI) cl ([(qx, .inr (5, [.ref qc, .ref qf, .ref na, .ref df, .ref qi])), (qf, .inr (2, [v0, v1]))] ++ va_pl L (gE cO G)) s.heap := hP
  have hl := lv_entry ([.ref qx, .null, .ref s0, .int (nI n)]) (n := 4) (Nat.le_of_ble_eq_true rfl)
  rw [lg_entry_eq]
  generalize (lg_sl ([.ref qx, .null, .ref s0, .int (nI n)]) ++ List.replicate (4 - (lg_sl ([.ref qx, .null, .ref s0, .int (nI n)])).length) Slot.unset).toArray = ls at hl ⊢
  have hl : lv_has ls 4 [(0, .ref qx), (1, .null), (2, .ref s0), (3, .int (nI n))] := hl
  refine lv_aload_nN hx hb d_Checker_checkSource_0 rfl (lv_at hl 1 rfl) ?_
  refine lv_ifnonnullN hx hb d_Checker_checkSource_1 ?_
  refine lv_iconst (v := nI 1) hx hb d_Checker_checkSource_4 (by decide) ?_
  have hX : (cks G none s0 n (G.2.2.1 nm 2)) = none := rfl
  exact wr_z (x := true) hx hb hr hlocks (v0, v1) ⟨by rw [hX]; rfl, by rw [hX]; rfl⟩ hK hP hD hS d_Checker_checkSource_5
set_option maxHeartbeats 4000000 in
set_option maxRecDepth 100000 in
/-- checkSource(wire, side, n) -/
theorem p_Checker_checkSourceS (l : Launch) (dC : Nat → ClassId) (dI : Nat → Nat → Nat) (cB cI cL cZ cC cO : ClassId) (qx qc qf na df qi : Nat) (v0 v1 : Value) {L : List Nat} {G : PG} (w s0 n nm : Nat) (t0 sz : Nat) (hL : gL L G) (hs : G.1 s0 = 3) (ho : ∀ z, G.2.2.1 s0 2 = some z → z < 2 ^ 31) (hlo : G.2.1 s0 3 < 100) (hhi : G.2.1 s0 4 < 100) (hsn : G.2.2.2.2.2 s0 0 = some nm) (hnm : G.1 nm = 1) (hn : n < 2 ^ 31) (hw : G.1 w = 2) (hk : G.2.1 w 1 < 3) (hwd : G.2.1 w 2 < 100) (hpl : ∀ z, (G.2.2.1 nm 2) = some z → z < 2 ^ 31) : Met l y_Checker_checkSource w_Checker_checkSource ({ frames := 3, cells := 0, slots := 0, locals := 130 }) (va_Pc [.ref qx, .ref w, .ref s0, .int (nI n)] (wB2 (dC, dI) cl [(cB, .byte), (cI, .int), (cL, .long), (cZ, .boolean), (cC, .char), (cO, .object "java/lang/Object")] sz t0 ([(qx, .inr (5, [.ref qc, .ref qf, .ref na, .ref df, .ref qi])), (qf, .inr (2, [v0, v1]))] ++ va_pl L (gE cO G)))) (va_Qi (fun (r : Int32) (u : Value × Value) => r = bI (decide (cks G (some w) s0 n (G.2.2.1 nm 2) = none)) ∧ u = fpr (cks G (some w) s0 n (G.2.2.1 nm 2)) v0 v1) (fun u t => wA (dC, dI) cl [(cB, .byte), (cI, .int), (cL, .long), (cZ, .boolean), (cC, .char), (cO, .object "java/lang/Object")] (va_A ([(qx, .inr (5, [.ref qc, .ref qf, .ref na, .ref df, .ref qi])), (qf, .inr (2, [v0, v1]))] ++ va_pl L (gE cO G)) sz) ([(qx, .inr (5, [.ref qc, .ref qf, .ref na, .ref df, .ref qi])), (qf, .inr (2, [u.1, u.2]))] ++ va_pl L (gE cO G)) t) (va_A ([(qx, .inr (5, [.ref qc, .ref qf, .ref na, .ref df, .ref qi])), (qf, .inr (2, [v0, v1]))] ++ va_pl L (gE cO G)) sz)) 0 0 (va_A ([(qx, .inr (5, [.ref qc, .ref qf, .ref na, .ref df, .ref qi])), (qf, .inr (2, [v0, v1]))] ++ va_pl L (gE cO G)) sz) := by
  refine Met.ofW (cc := b_Checker_checkSource) (maxL := 4) (ret := (some ClassFile.FieldType.boolean)) (by decide) rfl ?_
  intro p e s m args below meth c s₁ B hml hv
  obtain ⟨rfl, ⟨hsz, hP, hK, hD0, hF⟩, hE⟩ := hv
  have hx := B.exec
  have hb := B.bytes
  have hr := B.returns
  have hts := atoms_spec (ws := w_Checker_checkSource) B.pre
  have hts : ∀ w ∈ tb, w.before _ s = true := fun w h => hts w (List.mem_cons_of_mem _ h)
  have hown : s.vm.findClass R_Checker = some m.cls := findClass_of_methodNamed B.named
  have hlocks := B.notSynchronized
  subst hsz
  have hD := hD0.self (sz := s.heap.size)
  generalize hAe : va_A ([(qx, .inr (5, [.ref qc, .ref qf, .ref na, .ref df, .ref qi])), (qf, .inr (2, [v0, v1]))] ++ va_pl L (gE cO G)) s.heap.size = A at hD hF hE ⊢
  have hA : ∀ q : Nat, s.heap.size ≤ q → A q := fun q h => by rw [← hAe]; exact Or.inr h
  have hS : va_S A s.heap s.heap [] := va_S.rf
  have hP : va_P (dC, dI) cl ([(qx, .inr (5, [.ref qc, .ref qf, .ref na, .ref df, .ref qi])), (qf, .inr (2, [v0, v1]))] ++ va_pl L (gE cO G)) s.heap := hP
  have hl := lv_entry ([.ref qx, .ref w, .ref s0, .int (nI n)]) (n := 4) (Nat.le_of_ble_eq_true rfl)
  rw [lg_entry_eq]
  generalize (lg_sl ([.ref qx, .ref w, .ref s0, .int (nI n)]) ++ List.replicate (4 - (lg_sl ([.ref qx, .ref w, .ref s0, .int (nI n)])).length) Slot.unset).toArray = ls at hl ⊢
  have hl : lv_has ls 4 [(0, .ref qx), (1, .ref w), (2, .ref s0), (3, .int (nI n))] := hl
  refine lv_aload_n hx hb d_Checker_checkSource_0 rfl (lv_at hl 1 rfl) ?_
  refine lv_ifnonnull (tgt := 6) hx hb d_Checker_checkSource_1 (by decide) ?_
  refine lv_aload_n hx hb d_Checker_checkSource_6 rfl (lv_at hl 1 rfl) ?_
  refine pq_get (D := (dC, dI)) (ci := 8) (v := .int (nI (G.2.1 w 1))) (C := R_Wire) (T := F_Wire) (N := 7) hx hb hts i_Wire hown hK hP (gL_m hL hw (by decide)) (gE_2 (G := G) hw) rfl 1 (by decide) (hts _ k_219) (fun _ h9 => h9) rfl d_Checker_checkSource_7 ?_
  refine lv_iconst (v := nI 1) hx hb d_Checker_checkSource_10 (by decide) ?_
  refine nv_icmp_eq (tgt := 29) hx hb (by omega) (by omega) d_Checker_checkSource_11 (by decide) (fun c_1 => ?_) (fun c_1 => ?_)
  · refine lv_aload_n hx hb d_Checker_checkSource_29 rfl (lv_at hl 0 rfl) ?_
    refine va_get (D := (dC, dI)) (ci := 5) (v := .ref qf) (C := R_Checker) (T := F_Checker) (N := 5) hx hb hts i_Checker hown hK hP 0 rfl rfl 1 (by decide) (hts _ k_352) (fun _ h9 => h9) rfl d_Checker_checkSource_30 ?_
    refine lv_iconst (v := nI 4) hx hb d_Checker_checkSource_33 (by decide) ?_
    refine lv_aload_n hx hb d_Checker_checkSource_34 rfl (lv_at hl 2 rfl) ?_
    refine pq_get (D := (dC, dI)) (ci := 11) (v := .ref nm) (C := R_Side) (T := F_Side) (N := 5) hx hb hts i_Side hown hK hP (gL_m hL hs (by decide)) (gE_3 (G := G) hs) rfl 0 (by decide) (hts _ k_614) (fun _ h9 => h9) (congrArg (fun z9 => some (va_rf z9)) hsn) d_Checker_checkSource_35 ?_
    refine pq_get (D := (dC, dI)) (ci := 7) (v := .int (oI (G.2.2.1 nm 2))) (C := R_Name) (T := F_Name) (N := 3) hx hb hts i_Name hown hK hP (gL_m hL hnm (by decide)) (gE_1 (G := G) hnm) rfl 2 (by decide) (hts _ k_150) (fun _ h9 => h9) rfl d_Checker_checkSource_38 ?_
    refine we_i (cx := [(qf, .inr (2, [v0, v1]))]) (wr := [(qx, .inr (5, [.ref qc, .ref qf, .ref na, .ref df, .ref qi]))]) (pl := va_pl L (gE cO G)) (va_runV (As := [.int (nI 4), .int (oI (G.2.2.1 nm 2))]) (rest := []) ⟨hx, hb, hml, hown, hts⟩ (c_Fault_note l dC dI cB cI cL cZ cC cO qf (nI 4) (oI (G.2.2.1 nm 2)) _ ) (cwV 2 hts (good_V k_695 k_534 k_535 k_3 k_536) rfl rfl rfl (by decide +kernel) ⟨Nat.le_of_ble_eq_true rfl, Nat.le_of_ble_eq_true rfl⟩) (wc_preV (k0 := 1) (ci := 2) (r := (R_Fault, F_Fault, 2)) hK hP hD hS hA hF [1] (by decide) rfl rfl rfl) rfl rfl hl.1 rfl (lv_room (Nat.le_of_ble_eq_true rfl)) d_Checker_checkSource_41 ⟨Nat.le_of_ble_eq_true rfl, Nat.le_of_ble_eq_true rfl⟩) hP hD hS hA [1] [0] rfl rfl (by decide) (by decide) (fun r_3 _ H locs w_2 hP hD hS => ?_)
    have hP : va_P (dC, dI) cl ([(qx, .inr (5, [.ref qc, .ref qf, .ref na, .ref df, .ref qi])), (qf, .inr (2, [.int (nI 4), .int (oI (G.2.2.1 nm 2))]))] ++ va_pl L (gE cO G)) H := hP
    have hD : va_D A ([(qx, .inr (5, [.ref qc, .ref qf, .ref na, .ref df, .ref qi])), (qf, .inr (2, [.int (nI 4), .int (oI (G.2.2.1 nm 2))]))] ++ va_pl L (gE cO G)) := hD
    subst w_2
    have hX : (cks G (some w) s0 n (G.2.2.1 nm 2)) = some (4, G.2.2.1 nm 2) := by unfold cks; show (if _ then _ else _) = _; rw [if_pos (Or.inl c_1)]
    exact wr_z (x := false) hx hb hr hlocks (.int (nI 4), .int (oI (G.2.2.1 nm 2))) ⟨by rw [hX]; rfl, by rw [hX]; rfl⟩ hK hP hD hS d_Checker_checkSource_44
  · refine lv_aload_n hx hb d_Checker_checkSource_14 rfl (lv_at hl 1 rfl) ?_
    refine pq_get (D := (dC, dI)) (ci := 8) (v := .int (nI (G.2.1 w 1))) (C := R_Wire) (T := F_Wire) (N := 7) hx hb hts i_Wire hown hK hP (gL_m hL hw (by decide)) (gE_2 (G := G) hw) rfl 1 (by decide) (hts _ k_219) (fun _ h9 => h9) rfl d_Checker_checkSource_15 ?_
    refine lv_iconst (v := nI 2) hx hb d_Checker_checkSource_18 (by decide) ?_
    refine nv_icmp_ne (tgt := 45) hx hb (by omega) (by omega) d_Checker_checkSource_19 (by decide) (fun c_4 => ?_) (fun c_4 => ?_)
    · refine lv_aload_n hx hb d_Checker_checkSource_45 rfl (lv_at hl 1 rfl) ?_
      refine lv_aload_n hx hb d_Checker_checkSource_46 rfl (lv_at hl 2 rfl) ?_
      refine wd_i (cx := []) (wr := [(qx, .inr (5, [.ref qc, .ref qf, .ref na, .ref df, .ref qi])), (qf, .inr (2, [v0, v1]))]) (pl := va_pl L (gE cO G)) (va_runS (As := [.ref w, .ref s0]) (rest := []) ⟨hx, hb, hml, hown, hts⟩ (p_Checker_rangeIsRight l dC dI cB cI cL cZ cC cO w s0 t0 _ hL hs ho hlo hhi hw hk hwd) (va_cwS 2 hts (good_S k_739 k_740 k_8 k_741) rfl rfl rfl (by decide +kernel) ⟨Nat.le_of_ble_eq_true rfl, Nat.le_of_ble_eq_true rfl⟩) (wd_preS hK hP hD hS hA hF hE [] (by decide) rfl) rfl rfl hl.1 rfl (lv_room (Nat.le_of_ble_eq_true rfl)) d_Checker_checkSource_47 ⟨Nat.le_of_ble_eq_true rfl, Nat.le_of_ble_eq_true rfl⟩) hP hD hS hA [] [0, 1] rfl rfl (by decide) (by decide) (fun r_6 _ H locs w_5 hP hD hS => ?_)
      have hP : va_P (dC, dI) cl ([(qx, .inr (5, [.ref qc, .ref qf, .ref na, .ref df, .ref qi])), (qf, .inr (2, [v0, v1]))] ++ va_pl L (gE cO G)) H := hP
      have hD : va_D A ([(qx, .inr (5, [.ref qc, .ref qf, .ref na, .ref df, .ref qi])), (qf, .inr (2, [v0, v1]))] ++ va_pl L (gE cO G)) := hD
      subst w_5
      refine nv_bif_ne (tgt := 66) hx hb d_Checker_checkSource_50 (by decide) (fun c_7 => ?_) (fun c_7 => ?_)
      · refine lv_aload_n hx hb d_Checker_checkSource_66 rfl (lv_at hl 1 rfl) ?_
        refine pq_get (D := (dC, dI)) (ci := 8) (v := .int (nI (G.2.1 w 2))) (C := R_Wire) (T := F_Wire) (N := 7) hx hb hts i_Wire hown hK hP (gL_m hL hw (by decide)) (gE_2 (G := G) hw) rfl 2 (by decide) (hts _ k_222) (fun _ h9 => h9) rfl d_Checker_checkSource_67 ?_
        refine nv_if_eq (tgt := 85) hx hb (by omega) d_Checker_checkSource_70 (by decide) (fun c_8 => ?_) (fun c_8 => ?_)
        · refine lv_iconst (v := nI 1) hx hb d_Checker_checkSource_85 (by decide) ?_
          have hX : (cks G (some w) s0 n (G.2.2.1 nm 2)) = none := by unfold cks; show (if _ then _ else _) = _; rw [if_neg (fun q9 => q9.elim c_1 (fun q8 => c_4 q8.1)), if_pos c_7, if_pos (by first | exact Or.inl c_8 | exact Or.inr c_8)]
          exact wr_z (x := true) hx hb hr hlocks (v0, v1) ⟨by rw [hX]; rfl, by rw [hX]; rfl⟩ hK hP hD hS d_Checker_checkSource_86
        · refine lv_aload_n hx hb d_Checker_checkSource_73 rfl (lv_at hl 2 rfl) ?_
          refine lv_aload_n hx hb d_Checker_checkSource_74 rfl (lv_at hl 1 rfl) ?_
          refine pq_get (D := (dC, dI)) (ci := 8) (v := .int (nI (G.2.1 w 2))) (C := R_Wire) (T := F_Wire) (N := 7) hx hb hts i_Wire hown hK hP (gL_m hL hw (by decide)) (gE_2 (G := G) hw) rfl 2 (by decide) (hts _ k_222) (fun _ h9 => h9) rfl d_Checker_checkSource_75 ?_
          refine wd_i (cx := []) (wr := [(qx, .inr (5, [.ref qc, .ref qf, .ref na, .ref df, .ref qi])), (qf, .inr (2, [v0, v1]))]) (pl := va_pl L (gE cO G)) (va_runV (As := [.int (nI (G.2.1 w 2))]) (rest := []) ⟨hx, hb, hml, hown, hts⟩ (p_Side_width2 l dC dI cB cI cL cZ cC cO s0 (G.2.1 w 2) t0 _ hL hs ho hlo hhi (rir_le c_7)) (cwV 1 hts (good_V k_714 k_715 k_716 k_21 k_717) rfl rfl rfl (by decide +kernel) ⟨Nat.le_of_ble_eq_true rfl, Nat.le_of_ble_eq_true rfl⟩) (wd_preV (ci := 11) (r := (R_Side, F_Side, 5)) hK hP hD hS hA hF hE [] (by decide) rfl rfl (pq_at (gL_m hL hs (by decide)) (gE_3 (G := G) hs))) rfl rfl hl.1 rfl (lv_room (Nat.le_of_ble_eq_true rfl)) d_Checker_checkSource_78 ⟨Nat.le_of_ble_eq_true rfl, Nat.le_of_ble_eq_true rfl⟩) hP hD hS hA [] [0, 1] rfl rfl (by decide) (by decide) (fun r_10 _ H locs w_9 hP hD hS => ?_)
          have hP : va_P (dC, dI) cl ([(qx, .inr (5, [.ref qc, .ref qf, .ref na, .ref df, .ref qi])), (qf, .inr (2, [v0, v1]))] ++ va_pl L (gE cO G)) H := hP
          have hD : va_D A ([(qx, .inr (5, [.ref qc, .ref qf, .ref na, .ref df, .ref qi])), (qf, .inr (2, [v0, v1]))] ++ va_pl L (gE cO G)) := hD
          subst w_9
          have hbl : m_bits (G.2.2.1 s0 2) (G.2.1 s0 3) (G.2.1 s0 4) (G.2.1 w 2) < 200 := by unfold m_bits; split <;> omega
          refine lv_iload_n hx hb d_Checker_checkSource_81 rfl (lv_at hl 3 rfl) ?_
          refine nv_icmp_ne (tgt := 87) hx hb (by omega) (by omega) d_Checker_checkSource_82 (by decide) (fun c_11 => ?_) (fun c_11 => ?_)
          · refine lv_aload_n hx hb d_Checker_checkSource_87 rfl (lv_at hl 0 rfl) ?_
            refine va_get (D := (dC, dI)) (ci := 5) (v := .ref qf) (C := R_Checker) (T := F_Checker) (N := 5) hx hb hts i_Checker hown hK hP 0 rfl rfl 1 (by decide) (hts _ k_352) (fun _ h9 => h9) rfl d_Checker_checkSource_88 ?_
            refine lv_iconst (v := nI 5) hx hb d_Checker_checkSource_91 (by decide) ?_
            refine lv_aload_n hx hb d_Checker_checkSource_92 rfl (lv_at hl 2 rfl) ?_
            refine pq_get (D := (dC, dI)) (ci := 11) (v := .ref nm) (C := R_Side) (T := F_Side) (N := 5) hx hb hts i_Side hown hK hP (gL_m hL hs (by decide)) (gE_3 (G := G) hs) rfl 0 (by decide) (hts _ k_614) (fun _ h9 => h9) (congrArg (fun z9 => some (va_rf z9)) hsn) d_Checker_checkSource_93 ?_
            refine pq_get (D := (dC, dI)) (ci := 7) (v := .int (oI (G.2.2.1 nm 2))) (C := R_Name) (T := F_Name) (N := 3) hx hb hts i_Name hown hK hP (gL_m hL hnm (by decide)) (gE_1 (G := G) hnm) rfl 2 (by decide) (hts _ k_150) (fun _ h9 => h9) rfl d_Checker_checkSource_96 ?_
            refine we_i (cx := [(qf, .inr (2, [v0, v1]))]) (wr := [(qx, .inr (5, [.ref qc, .ref qf, .ref na, .ref df, .ref qi]))]) (pl := va_pl L (gE cO G)) (va_runV (As := [.int (nI 5), .int (oI (G.2.2.1 nm 2))]) (rest := []) ⟨hx, hb, hml, hown, hts⟩ (c_Fault_note l dC dI cB cI cL cZ cC cO qf (nI 5) (oI (G.2.2.1 nm 2)) _ ) (cwV 2 hts (good_V k_695 k_534 k_535 k_3 k_536) rfl rfl rfl (by decide +kernel) ⟨Nat.le_of_ble_eq_true rfl, Nat.le_of_ble_eq_true rfl⟩) (wc_preV (k0 := 1) (ci := 2) (r := (R_Fault, F_Fault, 2)) hK hP hD hS hA hF [1] (by decide) rfl rfl rfl) rfl rfl hl.1 rfl (lv_room (Nat.le_of_ble_eq_true rfl)) d_Checker_checkSource_99 ⟨Nat.le_of_ble_eq_true rfl, Nat.le_of_ble_eq_true rfl⟩) hP hD hS hA [1] [0] rfl rfl (by decide) (by decide) (fun r_13 _ H locs w_12 hP hD hS => ?_)
            have hP : va_P (dC, dI) cl ([(qx, .inr (5, [.ref qc, .ref qf, .ref na, .ref df, .ref qi])), (qf, .inr (2, [.int (nI 5), .int (oI (G.2.2.1 nm 2))]))] ++ va_pl L (gE cO G)) H := hP
            have hD : va_D A ([(qx, .inr (5, [.ref qc, .ref qf, .ref na, .ref df, .ref qi])), (qf, .inr (2, [.int (nI 5), .int (oI (G.2.2.1 nm 2))]))] ++ va_pl L (gE cO G)) := hD
            subst w_12
            have hX : (cks G (some w) s0 n (G.2.2.1 nm 2)) = some (5, G.2.2.1 nm 2) := by unfold cks; show (if _ then _ else _) = _; rw [if_neg (fun q9 => q9.elim c_1 (fun q8 => c_4 q8.1)), if_pos c_7, if_neg (fun q9 => q9.elim c_8 c_11)]
            exact wr_z (x := false) hx hb hr hlocks (.int (nI 5), .int (oI (G.2.2.1 nm 2))) ⟨by rw [hX]; rfl, by rw [hX]; rfl⟩ hK hP hD hS d_Checker_checkSource_102
          · refine lv_iconst (v := nI 1) hx hb d_Checker_checkSource_85 (by decide) ?_
            have hX : (cks G (some w) s0 n (G.2.2.1 nm 2)) = none := by unfold cks; show (if _ then _ else _) = _; rw [if_neg (fun q9 => q9.elim c_1 (fun q8 => c_4 q8.1)), if_pos c_7, if_pos (by first | exact Or.inl c_11 | exact Or.inr c_11)]
            exact wr_z (x := true) hx hb hr hlocks (v0, v1) ⟨by rw [hX]; rfl, by rw [hX]; rfl⟩ hK hP hD hS d_Checker_checkSource_86
      · refine lv_aload_n hx hb d_Checker_checkSource_53 rfl (lv_at hl 0 rfl) ?_
        refine va_get (D := (dC, dI)) (ci := 5) (v := .ref qf) (C := R_Checker) (T := F_Checker) (N := 5) hx hb hts i_Checker hown hK hP 0 rfl rfl 1 (by decide) (hts _ k_352) (fun _ h9 => h9) rfl d_Checker_checkSource_54 ?_
        refine lv_iconst (v := nI 5) hx hb d_Checker_checkSource_57 (by decide) ?_
        refine lv_aload_n hx hb d_Checker_checkSource_58 rfl (lv_at hl 2 rfl) ?_
        refine pq_get (D := (dC, dI)) (ci := 11) (v := .int (oI (G.2.2.1 s0 2))) (C := R_Side) (T := F_Side) (N := 5) hx hb hts i_Side hown hK hP (gL_m hL hs (by decide)) (gE_3 (G := G) hs) rfl 2 (by decide) (hts _ k_620) (fun _ h9 => h9) rfl d_Checker_checkSource_59 ?_
        refine we_i (cx := [(qf, .inr (2, [v0, v1]))]) (wr := [(qx, .inr (5, [.ref qc, .ref qf, .ref na, .ref df, .ref qi]))]) (pl := va_pl L (gE cO G)) (va_runV (As := [.int (nI 5), .int (oI (G.2.2.1 s0 2))]) (rest := []) ⟨hx, hb, hml, hown, hts⟩ (c_Fault_note l dC dI cB cI cL cZ cC cO qf (nI 5) (oI (G.2.2.1 s0 2)) _ ) (cwV 2 hts (good_V k_695 k_534 k_535 k_3 k_536) rfl rfl rfl (by decide +kernel) ⟨Nat.le_of_ble_eq_true rfl, Nat.le_of_ble_eq_true rfl⟩) (wc_preV (k0 := 1) (ci := 2) (r := (R_Fault, F_Fault, 2)) hK hP hD hS hA hF [1] (by decide) rfl rfl rfl) rfl rfl hl.1 rfl (lv_room (Nat.le_of_ble_eq_true rfl)) d_Checker_checkSource_62 ⟨Nat.le_of_ble_eq_true rfl, Nat.le_of_ble_eq_true rfl⟩) hP hD hS hA [1] [0] rfl rfl (by decide) (by decide) (fun r_15 _ H locs w_14 hP hD hS => ?_)
        have hP : va_P (dC, dI) cl ([(qx, .inr (5, [.ref qc, .ref qf, .ref na, .ref df, .ref qi])), (qf, .inr (2, [.int (nI 5), .int (oI (G.2.2.1 s0 2))]))] ++ va_pl L (gE cO G)) H := hP
        have hD : va_D A ([(qx, .inr (5, [.ref qc, .ref qf, .ref na, .ref df, .ref qi])), (qf, .inr (2, [.int (nI 5), .int (oI (G.2.2.1 s0 2))]))] ++ va_pl L (gE cO G)) := hD
        subst w_14
        have hX : (cks G (some w) s0 n (G.2.2.1 nm 2)) = some (5, G.2.2.1 s0 2) := by unfold cks; show (if _ then _ else _) = _; rw [if_neg (fun q9 => q9.elim c_1 (fun q8 => c_4 q8.1)), if_neg (by rw [c_7]; decide)]
        exact wr_z (x := false) hx hb hr hlocks (.int (nI 5), .int (oI (G.2.2.1 s0 2))) ⟨by rw [hX]; rfl, by rw [hX]; rfl⟩ hK hP hD hS d_Checker_checkSource_65
    · refine lv_aload_n hx hb d_Checker_checkSource_22 rfl (lv_at hl 1 rfl) ?_
      refine pq_get (D := (dC, dI)) (ci := 8) (v := .int (bI (G.2.2.2.1 w 6))) (C := R_Wire) (T := F_Wire) (N := 7) hx hb hts i_Wire hown hK hP (gL_m hL hw (by decide)) (gE_2 (G := G) hw) rfl 6 (by decide) (hts _ k_234) (fun _ h9 => h9) rfl d_Checker_checkSource_23 ?_
      refine nv_bif_ne (tgt := 45) hx hb d_Checker_checkSource_26 (by decide) (fun c_16 => ?_) (fun c_16 => ?_)
      · refine lv_aload_n hx hb d_Checker_checkSource_45 rfl (lv_at hl 1 rfl) ?_
        refine lv_aload_n hx hb d_Checker_checkSource_46 rfl (lv_at hl 2 rfl) ?_
        refine wd_i (cx := []) (wr := [(qx, .inr (5, [.ref qc, .ref qf, .ref na, .ref df, .ref qi])), (qf, .inr (2, [v0, v1]))]) (pl := va_pl L (gE cO G)) (va_runS (As := [.ref w, .ref s0]) (rest := []) ⟨hx, hb, hml, hown, hts⟩ (p_Checker_rangeIsRight l dC dI cB cI cL cZ cC cO w s0 t0 _ hL hs ho hlo hhi hw hk hwd) (va_cwS 2 hts (good_S k_739 k_740 k_8 k_741) rfl rfl rfl (by decide +kernel) ⟨Nat.le_of_ble_eq_true rfl, Nat.le_of_ble_eq_true rfl⟩) (wd_preS hK hP hD hS hA hF hE [] (by decide) rfl) rfl rfl hl.1 rfl (lv_room (Nat.le_of_ble_eq_true rfl)) d_Checker_checkSource_47 ⟨Nat.le_of_ble_eq_true rfl, Nat.le_of_ble_eq_true rfl⟩) hP hD hS hA [] [0, 1] rfl rfl (by decide) (by decide) (fun r_18 _ H locs w_17 hP hD hS => ?_)
        have hP : va_P (dC, dI) cl ([(qx, .inr (5, [.ref qc, .ref qf, .ref na, .ref df, .ref qi])), (qf, .inr (2, [v0, v1]))] ++ va_pl L (gE cO G)) H := hP
        have hD : va_D A ([(qx, .inr (5, [.ref qc, .ref qf, .ref na, .ref df, .ref qi])), (qf, .inr (2, [v0, v1]))] ++ va_pl L (gE cO G)) := hD
        subst w_17
        refine nv_bif_ne (tgt := 66) hx hb d_Checker_checkSource_50 (by decide) (fun c_19 => ?_) (fun c_19 => ?_)
        · refine lv_aload_n hx hb d_Checker_checkSource_66 rfl (lv_at hl 1 rfl) ?_
          refine pq_get (D := (dC, dI)) (ci := 8) (v := .int (nI (G.2.1 w 2))) (C := R_Wire) (T := F_Wire) (N := 7) hx hb hts i_Wire hown hK hP (gL_m hL hw (by decide)) (gE_2 (G := G) hw) rfl 2 (by decide) (hts _ k_222) (fun _ h9 => h9) rfl d_Checker_checkSource_67 ?_
          refine nv_if_eq (tgt := 85) hx hb (by omega) d_Checker_checkSource_70 (by decide) (fun c_20 => ?_) (fun c_20 => ?_)
          · refine lv_iconst (v := nI 1) hx hb d_Checker_checkSource_85 (by decide) ?_
            have hX : (cks G (some w) s0 n (G.2.2.1 nm 2)) = none := by unfold cks; show (if _ then _ else _) = _; rw [if_neg (fun q9 => q9.elim c_1 (fun q8 => absurd (q8.2.symm.trans c_16) (by decide))), if_pos c_19, if_pos (by first | exact Or.inl c_20 | exact Or.inr c_20)]
            exact wr_z (x := true) hx hb hr hlocks (v0, v1) ⟨by rw [hX]; rfl, by rw [hX]; rfl⟩ hK hP hD hS d_Checker_checkSource_86
          · refine lv_aload_n hx hb d_Checker_checkSource_73 rfl (lv_at hl 2 rfl) ?_
            refine lv_aload_n hx hb d_Checker_checkSource_74 rfl (lv_at hl 1 rfl) ?_
            refine pq_get (D := (dC, dI)) (ci := 8) (v := .int (nI (G.2.1 w 2))) (C := R_Wire) (T := F_Wire) (N := 7) hx hb hts i_Wire hown hK hP (gL_m hL hw (by decide)) (gE_2 (G := G) hw) rfl 2 (by decide) (hts _ k_222) (fun _ h9 => h9) rfl d_Checker_checkSource_75 ?_
            refine wd_i (cx := []) (wr := [(qx, .inr (5, [.ref qc, .ref qf, .ref na, .ref df, .ref qi])), (qf, .inr (2, [v0, v1]))]) (pl := va_pl L (gE cO G)) (va_runV (As := [.int (nI (G.2.1 w 2))]) (rest := []) ⟨hx, hb, hml, hown, hts⟩ (p_Side_width2 l dC dI cB cI cL cZ cC cO s0 (G.2.1 w 2) t0 _ hL hs ho hlo hhi (rir_le c_19)) (cwV 1 hts (good_V k_714 k_715 k_716 k_21 k_717) rfl rfl rfl (by decide +kernel) ⟨Nat.le_of_ble_eq_true rfl, Nat.le_of_ble_eq_true rfl⟩) (wd_preV (ci := 11) (r := (R_Side, F_Side, 5)) hK hP hD hS hA hF hE [] (by decide) rfl rfl (pq_at (gL_m hL hs (by decide)) (gE_3 (G := G) hs))) rfl rfl hl.1 rfl (lv_room (Nat.le_of_ble_eq_true rfl)) d_Checker_checkSource_78 ⟨Nat.le_of_ble_eq_true rfl, Nat.le_of_ble_eq_true rfl⟩) hP hD hS hA [] [0, 1] rfl rfl (by decide) (by decide) (fun r_22 _ H locs w_21 hP hD hS => ?_)
            have hP : va_P (dC, dI) cl ([(qx, .inr (5, [.ref qc, .ref qf, .ref na, .ref df, .ref qi])), (qf, .inr (2, [v0, v1]))] ++ va_pl L (gE cO G)) H := hP
            have hD : va_D A ([(qx, .inr (5, [.ref qc, .ref qf, .ref na, .ref df, .ref qi])), (qf, .inr (2, [v0, v1]))] ++ va_pl L (gE cO G)) := hD
            subst w_21
            have hbl : m_bits (G.2.2.1 s0 2) (G.2.1 s0 3) (G.2.1 s0 4) (G.2.1 w 2) < 200 := by unfold m_bits; split <;> omega
            refine lv_iload_n hx hb d_Checker_checkSource_81 rfl (lv_at hl 3 rfl) ?_
            refine nv_icmp_ne (tgt := 87) hx hb (by omega) (by omega) d_Checker_checkSource_82 (by decide) (fun c_23 => ?_) (fun c_23 => ?_)
            · refine lv_aload_n hx hb d_Checker_checkSource_87 rfl (lv_at hl 0 rfl) ?_
              refine va_get (D := (dC, dI)) (ci := 5) (v := .ref qf) (C := R_Checker) (T := F_Checker) (N := 5) hx hb hts i_Checker hown hK hP 0 rfl rfl 1 (by decide) (hts _ k_352) (fun _ h9 => h9) rfl d_Checker_checkSource_88 ?_
              refine lv_iconst (v := nI 5) hx hb d_Checker_checkSource_91 (by decide) ?_
              refine lv_aload_n hx hb d_Checker_checkSource_92 rfl (lv_at hl 2 rfl) ?_
              refine pq_get (D := (dC, dI)) (ci := 11) (v := .ref nm) (C := R_Side) (T := F_Side) (N := 5) hx hb hts i_Side hown hK hP (gL_m hL hs (by decide)) (gE_3 (G := G) hs) rfl 0 (by decide) (hts _ k_614) (fun _ h9 => h9) (congrArg (fun z9 => some (va_rf z9)) hsn) d_Checker_checkSource_93 ?_
              refine pq_get (D := (dC, dI)) (ci := 7) (v := .int (oI (G.2.2.1 nm 2))) (C := R_Name) (T := F_Name) (N := 3) hx hb hts i_Name hown hK hP (gL_m hL hnm (by decide)) (gE_1 (G := G) hnm) rfl 2 (by decide) (hts _ k_150) (fun _ h9 => h9) rfl d_Checker_checkSource_96 ?_
              refine we_i (cx := [(qf, .inr (2, [v0, v1]))]) (wr := [(qx, .inr (5, [.ref qc, .ref qf, .ref na, .ref df, .ref qi]))]) (pl := va_pl L (gE cO G)) (va_runV (As := [.int (nI 5), .int (oI (G.2.2.1 nm 2))]) (rest := []) ⟨hx, hb, hml, hown, hts⟩ (c_Fault_note l dC dI cB cI cL cZ cC cO qf (nI 5) (oI (G.2.2.1 nm 2)) _ ) (cwV 2 hts (good_V k_695 k_534 k_535 k_3 k_536) rfl rfl rfl (by decide +kernel) ⟨Nat.le_of_ble_eq_true rfl, Nat.le_of_ble_eq_true rfl⟩) (wc_preV (k0 := 1) (ci := 2) (r := (R_Fault, F_Fault, 2)) hK hP hD hS hA hF [1] (by decide) rfl rfl rfl) rfl rfl hl.1 rfl (lv_room (Nat.le_of_ble_eq_true rfl)) d_Checker_checkSource_99 ⟨Nat.le_of_ble_eq_true rfl, Nat.le_of_ble_eq_true rfl⟩) hP hD hS hA [1] [0] rfl rfl (by decide) (by decide) (fun r_25 _ H locs w_24 hP hD hS => ?_)
              have hP : va_P (dC, dI) cl ([(qx, .inr (5, [.ref qc, .ref qf, .ref na, .ref df, .ref qi])), (qf, .inr (2, [.int (nI 5), .int (oI (G.2.2.1 nm 2))]))] ++ va_pl L (gE cO G)) H := hP
              have hD : va_D A ([(qx, .inr (5, [.ref qc, .ref qf, .ref na, .ref df, .ref qi])), (qf, .inr (2, [.int (nI 5), .int (oI (G.2.2.1 nm 2))]))] ++ va_pl L (gE cO G)) := hD
              subst w_24
              have hX : (cks G (some w) s0 n (G.2.2.1 nm 2)) = some (5, G.2.2.1 nm 2) := by unfold cks; show (if _ then _ else _) = _; rw [if_neg (fun q9 => q9.elim c_1 (fun q8 => absurd (q8.2.symm.trans c_16) (by decide))), if_pos c_19, if_neg (fun q9 => q9.elim c_20 c_23)]
              exact wr_z (x := false) hx hb hr hlocks (.int (nI 5), .int (oI (G.2.2.1 nm 2))) ⟨by rw [hX]; rfl, by rw [hX]; rfl⟩ hK hP hD hS d_Checker_checkSource_102
            · refine lv_iconst (v := nI 1) hx hb d_Checker_checkSource_85 (by decide) ?_
              have hX : (cks G (some w) s0 n (G.2.2.1 nm 2)) = none := by unfold cks; show (if _ then _ else _) = _; rw [if_neg (fun q9 => q9.elim c_1 (fun q8 => absurd (q8.2.symm.trans c_16) (by decide))), if_pos c_19, if_pos (by first | exact Or.inl c_23 | exact Or.inr c_23)]
              exact wr_z (x := true) hx hb hr hlocks (v0, v1) ⟨by rw [hX]; rfl, by rw [hX]; rfl⟩ hK hP hD hS d_Checker_checkSource_86
        · refine lv_aload_n hx hb d_Checker_checkSource_53 rfl (lv_at hl 0 rfl) ?_
          refine va_get (D := (dC, dI)) (ci := 5) (v := .ref qf) (C := R_Checker) (T := F_Checker) (N := 5) hx hb hts i_Checker hown hK hP 0 rfl rfl 1 (by decide) (hts _ k_352) (fun _ h9 => h9) rfl d_Checker_checkSource_54 ?_
          refine lv_iconst (v := nI 5) hx hb d_Checker_checkSource_57 (by decide) ?_
          refine lv_aload_n hx hb d_Checker_checkSource_58 rfl (lv_at hl 2 rfl) ?_
          refine pq_get (D := (dC, dI)) (ci := 11) (v := .int (oI (G.2.2.1 s0 2))) (C := R_Side) (T := F_Side) (N := 5) hx hb hts i_Side hown hK hP (gL_m hL hs (by decide)) (gE_3 (G := G) hs) rfl 2 (by decide) (hts _ k_620) (fun _ h9 => h9) rfl d_Checker_checkSource_59 ?_
          refine we_i (cx := [(qf, .inr (2, [v0, v1]))]) (wr := [(qx, .inr (5, [.ref qc, .ref qf, .ref na, .ref df, .ref qi]))]) (pl := va_pl L (gE cO G)) (va_runV (As := [.int (nI 5), .int (oI (G.2.2.1 s0 2))]) (rest := []) ⟨hx, hb, hml, hown, hts⟩ (c_Fault_note l dC dI cB cI cL cZ cC cO qf (nI 5) (oI (G.2.2.1 s0 2)) _ ) (cwV 2 hts (good_V k_695 k_534 k_535 k_3 k_536) rfl rfl rfl (by decide +kernel) ⟨Nat.le_of_ble_eq_true rfl, Nat.le_of_ble_eq_true rfl⟩) (wc_preV (k0 := 1) (ci := 2) (r := (R_Fault, F_Fault, 2)) hK hP hD hS hA hF [1] (by decide) rfl rfl rfl) rfl rfl hl.1 rfl (lv_room (Nat.le_of_ble_eq_true rfl)) d_Checker_checkSource_62 ⟨Nat.le_of_ble_eq_true rfl, Nat.le_of_ble_eq_true rfl⟩) hP hD hS hA [1] [0] rfl rfl (by decide) (by decide) (fun r_27 _ H locs w_26 hP hD hS => ?_)
          have hP : va_P (dC, dI) cl ([(qx, .inr (5, [.ref qc, .ref qf, .ref na, .ref df, .ref qi])), (qf, .inr (2, [.int (nI 5), .int (oI (G.2.2.1 s0 2))]))] ++ va_pl L (gE cO G)) H := hP
          have hD : va_D A ([(qx, .inr (5, [.ref qc, .ref qf, .ref na, .ref df, .ref qi])), (qf, .inr (2, [.int (nI 5), .int (oI (G.2.2.1 s0 2))]))] ++ va_pl L (gE cO G)) := hD
          subst w_26
          have hX : (cks G (some w) s0 n (G.2.2.1 nm 2)) = some (5, G.2.2.1 s0 2) := by unfold cks; show (if _ then _ else _) = _; rw [if_neg (fun q9 => q9.elim c_1 (fun q8 => absurd (q8.2.symm.trans c_16) (by decide))), if_neg (by rw [c_19]; decide)]
          exact wr_z (x := false) hx hb hr hlocks (.int (nI 5), .int (oI (G.2.2.1 s0 2))) ⟨by rw [hX]; rfl, by rw [hX]; rfl⟩ hK hP hD hS d_Checker_checkSource_65
      · refine lv_aload_n hx hb d_Checker_checkSource_29 rfl (lv_at hl 0 rfl) ?_
        refine va_get (D := (dC, dI)) (ci := 5) (v := .ref qf) (C := R_Checker) (T := F_Checker) (N := 5) hx hb hts i_Checker hown hK hP 0 rfl rfl 1 (by decide) (hts _ k_352) (fun _ h9 => h9) rfl d_Checker_checkSource_30 ?_
        refine lv_iconst (v := nI 4) hx hb d_Checker_checkSource_33 (by decide) ?_
        refine lv_aload_n hx hb d_Checker_checkSource_34 rfl (lv_at hl 2 rfl) ?_
        refine pq_get (D := (dC, dI)) (ci := 11) (v := .ref nm) (C := R_Side) (T := F_Side) (N := 5) hx hb hts i_Side hown hK hP (gL_m hL hs (by decide)) (gE_3 (G := G) hs) rfl 0 (by decide) (hts _ k_614) (fun _ h9 => h9) (congrArg (fun z9 => some (va_rf z9)) hsn) d_Checker_checkSource_35 ?_
        refine pq_get (D := (dC, dI)) (ci := 7) (v := .int (oI (G.2.2.1 nm 2))) (C := R_Name) (T := F_Name) (N := 3) hx hb hts i_Name hown hK hP (gL_m hL hnm (by decide)) (gE_1 (G := G) hnm) rfl 2 (by decide) (hts _ k_150) (fun _ h9 => h9) rfl d_Checker_checkSource_38 ?_
        refine we_i (cx := [(qf, .inr (2, [v0, v1]))]) (wr := [(qx, .inr (5, [.ref qc, .ref qf, .ref na, .ref df, .ref qi]))]) (pl := va_pl L (gE cO G)) (va_runV (As := [.int (nI 4), .int (oI (G.2.2.1 nm 2))]) (rest := []) ⟨hx, hb, hml, hown, hts⟩ (c_Fault_note l dC dI cB cI cL cZ cC cO qf (nI 4) (oI (G.2.2.1 nm 2)) _ ) (cwV 2 hts (good_V k_695 k_534 k_535 k_3 k_536) rfl rfl rfl (by decide +kernel) ⟨Nat.le_of_ble_eq_true rfl, Nat.le_of_ble_eq_true rfl⟩) (wc_preV (k0 := 1) (ci := 2) (r := (R_Fault, F_Fault, 2)) hK hP hD hS hA hF [1] (by decide) rfl rfl rfl) rfl rfl hl.1 rfl (lv_room (Nat.le_of_ble_eq_true rfl)) d_Checker_checkSource_41 ⟨Nat.le_of_ble_eq_true rfl, Nat.le_of_ble_eq_true rfl⟩) hP hD hS hA [1] [0] rfl rfl (by decide) (by decide) (fun r_29 _ H locs w_28 hP hD hS => ?_)
        have hP : va_P (dC, dI) cl ([(qx, .inr (5, [.ref qc, .ref qf, .ref na, .ref df, .ref qi])), (qf, .inr (2, [.int (nI 4), .int (oI (G.2.2.1 nm 2))]))] ++ va_pl L (gE cO G)) H := hP
        have hD : va_D A ([(qx, .inr (5, [.ref qc, .ref qf, .ref na, .ref df, .ref qi])), (qf, .inr (2, [.int (nI 4), .int (oI (G.2.2.1 nm 2))]))] ++ va_pl L (gE cO G)) := hD
        subst w_28
        have hX : (cks G (some w) s0 n (G.2.2.1 nm 2)) = some (4, G.2.2.1 nm 2) := by unfold cks; show (if _ then _ else _) = _; rw [if_pos (Or.inr ⟨c_4, c_16⟩)]
        exact wr_z (x := false) hx hb hr hlocks (.int (nI 4), .int (oI (G.2.2.1 nm 2))) ⟨by rw [hX]; rfl, by rw [hX]; rfl⟩ hK hP hD hS d_Checker_checkSource_44
