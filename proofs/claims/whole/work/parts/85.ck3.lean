theorem m_set_lt2 {n i : Nat} (h : n + i ≤ 16) : m_set n i < 65536 := m_set_lt h
theorem mask_eq {G : PG} {w s : Nat} (h : rir G w s = true) (hw : G.2.1 w 2 ≤ 16) (hn : G.2.2.1 s 2 = none → G.2.1 s 3 = 0 ∧ G.2.1 s 4 = 0) : sd_mask (G.2.2.1 s 2) (G.2.1 s 3) (G.2.1 s 4) (G.2.1 w 2) = nI (m_set (m_bits (G.2.2.1 s 2) (G.2.1 s 3) (G.2.1 s 4) (G.2.1 w 2)) (G.2.1 s 3)) ∧ m_bits (G.2.2.1 s 2) (G.2.1 s 3) (G.2.1 s 4) (G.2.1 w 2) + G.2.1 s 3 ≤ 16 := by
  have hb : m_bits (G.2.2.1 s 2) (G.2.1 s 3) (G.2.1 s 4) (G.2.1 w 2) + G.2.1 s 3 ≤ 16 := by
    by_cases e : G.2.2.1 s 2 = none
    · have := hn e
      unfold m_bits; rw [if_pos e]; omega
    · have h1 := rir_le h e
      have h2 : G.2.1 s 4 < G.2.1 w 2 := by
        unfold rir at h
        by_cases e2 : G.2.1 w 1 = 2
        · rw [if_pos e2] at h; exact absurd (of_decide_eq_true h) e
        · rw [if_neg e2] at h; unfold m_fits at h; rw [if_neg e] at h; simp at h; exact h.2
      unfold m_bits; rw [if_neg e]; omega
  exact ⟨set_all _ (by omega) _ (by omega), hb⟩
/-- checkTarget: nothing, or a fault and its place; the pool behind it -/
def ckt (G : PG) (wo : Option Nat) (s n : Nat) (np : Option Nat) : Option (Nat × Option Nat) × PG := match wo with
  | none => (some (4, np), G)
  | some w => if G.2.1 w 1 = 0 then (some (4, np), G) else if G.2.1 w 1 = 2 ∧ G.2.1 w 5 ≠ 0 then (some (3, np), G) else if rir G w s = true then
      (if G.2.1 w 5 &&& m_set (m_bits (G.2.2.1 s 2) (G.2.1 s 3) (G.2.1 s 4) (G.2.1 w 2)) (G.2.1 s 3) = 0 then ((if m_bits (G.2.2.1 s 2) (G.2.1 s 3) (G.2.1 s 4) (G.2.1 w 2) = n then none else some (5, np)), gN G w 5 (G.2.1 w 5 ||| m_set (m_bits (G.2.2.1 s 2) (G.2.1 s 3) (G.2.1 s 4) (G.2.1 w 2)) (G.2.1 s 3))) else (some (3, np), G))
    else (some (5, G.2.2.1 s 2), G)
theorem d_Checker_checkTarget_0 : decode b_Checker_checkTarget 0 = .ok (.aload_n 1, 1) := by decide +kernel
theorem d_Checker_checkTarget_1 : decode b_Checker_checkTarget 1 = .ok (.ifnull 10, 3) := by decide +kernel
theorem d_Checker_checkTarget_4 : decode b_Checker_checkTarget 4 = .ok (.aload_n 1, 1) := by decide +kernel
theorem d_Checker_checkTarget_5 : decode b_Checker_checkTarget 5 = .ok (.getfield 128, 3) := by decide +kernel
theorem d_Checker_checkTarget_8 : decode b_Checker_checkTarget 8 = .ok (.ifCond .ne 19, 3) := by decide +kernel
theorem d_Checker_checkTarget_11 : decode b_Checker_checkTarget 11 = .ok (.aload_n 0, 1) := by decide +kernel
theorem d_Checker_checkTarget_12 : decode b_Checker_checkTarget 12 = .ok (.getfield 33, 3) := by decide +kernel
theorem d_Checker_checkTarget_15 : decode b_Checker_checkTarget 15 = .ok (.iconst 4, 1) := by decide +kernel
theorem d_Checker_checkTarget_16 : decode b_Checker_checkTarget 16 = .ok (.aload_n 2, 1) := by decide +kernel
theorem d_Checker_checkTarget_17 : decode b_Checker_checkTarget 17 = .ok (.getfield 110, 3) := by decide +kernel
theorem d_Checker_checkTarget_20 : decode b_Checker_checkTarget 20 = .ok (.getfield 57, 3) := by decide +kernel
theorem d_Checker_checkTarget_23 : decode b_Checker_checkTarget 23 = .ok (.invokevirtual 63, 3) := by decide +kernel
theorem d_Checker_checkTarget_26 : decode b_Checker_checkTarget 26 = .ok (.ireturn, 1) := by decide +kernel
theorem d_Checker_checkTarget_27 : decode b_Checker_checkTarget 27 = .ok (.aload_n 1, 1) := by decide +kernel
theorem d_Checker_checkTarget_28 : decode b_Checker_checkTarget 28 = .ok (.getfield 128, 3) := by decide +kernel
theorem d_Checker_checkTarget_31 : decode b_Checker_checkTarget 31 = .ok (.iconst 2, 1) := by decide +kernel
theorem d_Checker_checkTarget_32 : decode b_Checker_checkTarget 32 = .ok (.if_icmp .ne 26, 3) := by decide +kernel
theorem d_Checker_checkTarget_35 : decode b_Checker_checkTarget 35 = .ok (.aload_n 1, 1) := by decide +kernel
theorem d_Checker_checkTarget_36 : decode b_Checker_checkTarget 36 = .ok (.getfield 171, 3) := by decide +kernel
theorem d_Checker_checkTarget_39 : decode b_Checker_checkTarget 39 = .ok (.ifCond .eq 19, 3) := by decide +kernel
theorem d_Checker_checkTarget_42 : decode b_Checker_checkTarget 42 = .ok (.aload_n 0, 1) := by decide +kernel
theorem d_Checker_checkTarget_43 : decode b_Checker_checkTarget 43 = .ok (.getfield 33, 3) := by decide +kernel
theorem d_Checker_checkTarget_46 : decode b_Checker_checkTarget 46 = .ok (.iconst 3, 1) := by decide +kernel
theorem d_Checker_checkTarget_47 : decode b_Checker_checkTarget 47 = .ok (.aload_n 2, 1) := by decide +kernel
theorem d_Checker_checkTarget_48 : decode b_Checker_checkTarget 48 = .ok (.getfield 110, 3) := by decide +kernel
theorem d_Checker_checkTarget_51 : decode b_Checker_checkTarget 51 = .ok (.getfield 57, 3) := by decide +kernel
theorem d_Checker_checkTarget_54 : decode b_Checker_checkTarget 54 = .ok (.invokevirtual 63, 3) := by decide +kernel
theorem d_Checker_checkTarget_57 : decode b_Checker_checkTarget 57 = .ok (.ireturn, 1) := by decide +kernel
theorem d_Checker_checkTarget_58 : decode b_Checker_checkTarget 58 = .ok (.aload_n 1, 1) := by decide +kernel
theorem d_Checker_checkTarget_59 : decode b_Checker_checkTarget 59 = .ok (.aload_n 2, 1) := by decide +kernel
theorem d_Checker_checkTarget_60 : decode b_Checker_checkTarget 60 = .ok (.invokestatic 177, 3) := by decide +kernel
theorem d_Checker_checkTarget_63 : decode b_Checker_checkTarget 63 = .ok (.ifCond .ne 16, 3) := by decide +kernel
theorem d_Checker_checkTarget_66 : decode b_Checker_checkTarget 66 = .ok (.aload_n 0, 1) := by decide +kernel
theorem d_Checker_checkTarget_67 : decode b_Checker_checkTarget 67 = .ok (.getfield 33, 3) := by decide +kernel
theorem d_Checker_checkTarget_70 : decode b_Checker_checkTarget 70 = .ok (.iconst 5, 1) := by decide +kernel
theorem d_Checker_checkTarget_71 : decode b_Checker_checkTarget 71 = .ok (.aload_n 2, 1) := by decide +kernel
theorem d_Checker_checkTarget_72 : decode b_Checker_checkTarget 72 = .ok (.getfield 158, 3) := by decide +kernel
theorem d_Checker_checkTarget_75 : decode b_Checker_checkTarget 75 = .ok (.invokevirtual 63, 3) := by decide +kernel
theorem d_Checker_checkTarget_78 : decode b_Checker_checkTarget 78 = .ok (.ireturn, 1) := by decide +kernel
theorem d_Checker_checkTarget_79 : decode b_Checker_checkTarget 79 = .ok (.aload_n 2, 1) := by decide +kernel
theorem d_Checker_checkTarget_80 : decode b_Checker_checkTarget 80 = .ok (.aload_n 1, 1) := by decide +kernel
theorem d_Checker_checkTarget_81 : decode b_Checker_checkTarget 81 = .ok (.getfield 137, 3) := by decide +kernel
theorem d_Checker_checkTarget_84 : decode b_Checker_checkTarget 84 = .ok (.invokevirtual 168, 3) := by decide +kernel
theorem d_Checker_checkTarget_87 : decode b_Checker_checkTarget 87 = .ok (.istore 4, 2) := by decide +kernel
theorem d_Checker_checkTarget_89 : decode b_Checker_checkTarget 89 = .ok (.aload_n 1, 1) := by decide +kernel
theorem d_Checker_checkTarget_90 : decode b_Checker_checkTarget 90 = .ok (.getfield 171, 3) := by decide +kernel
theorem d_Checker_checkTarget_93 : decode b_Checker_checkTarget 93 = .ok (.iload 4, 2) := by decide +kernel
theorem d_Checker_checkTarget_95 : decode b_Checker_checkTarget 95 = .ok (.iand, 1) := by decide +kernel
theorem d_Checker_checkTarget_96 : decode b_Checker_checkTarget 96 = .ok (.ifCond .eq 19, 3) := by decide +kernel
theorem d_Checker_checkTarget_99 : decode b_Checker_checkTarget 99 = .ok (.aload_n 0, 1) := by decide +kernel
theorem d_Checker_checkTarget_100 : decode b_Checker_checkTarget 100 = .ok (.getfield 33, 3) := by decide +kernel
theorem d_Checker_checkTarget_103 : decode b_Checker_checkTarget 103 = .ok (.iconst 3, 1) := by decide +kernel
theorem d_Checker_checkTarget_104 : decode b_Checker_checkTarget 104 = .ok (.aload_n 2, 1) := by decide +kernel
theorem d_Checker_checkTarget_105 : decode b_Checker_checkTarget 105 = .ok (.getfield 110, 3) := by decide +kernel
theorem d_Checker_checkTarget_108 : decode b_Checker_checkTarget 108 = .ok (.getfield 57, 3) := by decide +kernel
theorem d_Checker_checkTarget_111 : decode b_Checker_checkTarget 111 = .ok (.invokevirtual 63, 3) := by decide +kernel
theorem d_Checker_checkTarget_114 : decode b_Checker_checkTarget 114 = .ok (.ireturn, 1) := by decide +kernel
theorem d_Checker_checkTarget_115 : decode b_Checker_checkTarget 115 = .ok (.aload_n 1, 1) := by decide +kernel
theorem d_Checker_checkTarget_116 : decode b_Checker_checkTarget 116 = .ok (.dup, 1) := by decide +kernel
theorem d_Checker_checkTarget_117 : decode b_Checker_checkTarget 117 = .ok (.getfield 171, 3) := by decide +kernel
theorem d_Checker_checkTarget_120 : decode b_Checker_checkTarget 120 = .ok (.iload 4, 2) := by decide +kernel
theorem d_Checker_checkTarget_122 : decode b_Checker_checkTarget 122 = .ok (.ior, 1) := by decide +kernel
theorem d_Checker_checkTarget_123 : decode b_Checker_checkTarget 123 = .ok (.putfield 171, 3) := by decide +kernel
theorem d_Checker_checkTarget_126 : decode b_Checker_checkTarget 126 = .ok (.aload_n 2, 1) := by decide +kernel
theorem d_Checker_checkTarget_127 : decode b_Checker_checkTarget 127 = .ok (.aload_n 1, 1) := by decide +kernel
theorem d_Checker_checkTarget_128 : decode b_Checker_checkTarget 128 = .ok (.getfield 137, 3) := by decide +kernel
theorem d_Checker_checkTarget_131 : decode b_Checker_checkTarget 131 = .ok (.invokevirtual 144, 3) := by decide +kernel
theorem d_Checker_checkTarget_134 : decode b_Checker_checkTarget 134 = .ok (.iload_n 3, 1) := by decide +kernel
theorem d_Checker_checkTarget_135 : decode b_Checker_checkTarget 135 = .ok (.if_icmp .eq 21, 3) := by decide +kernel
theorem d_Checker_checkTarget_138 : decode b_Checker_checkTarget 138 = .ok (.aload_n 0, 1) := by decide +kernel
theorem d_Checker_checkTarget_139 : decode b_Checker_checkTarget 139 = .ok (.getfield 33, 3) := by decide +kernel
theorem d_Checker_checkTarget_142 : decode b_Checker_checkTarget 142 = .ok (.iconst 5, 1) := by decide +kernel
theorem d_Checker_checkTarget_143 : decode b_Checker_checkTarget 143 = .ok (.aload_n 2, 1) := by decide +kernel
theorem d_Checker_checkTarget_144 : decode b_Checker_checkTarget 144 = .ok (.getfield 110, 3) := by decide +kernel
theorem d_Checker_checkTarget_147 : decode b_Checker_checkTarget 147 = .ok (.getfield 57, 3) := by decide +kernel
theorem d_Checker_checkTarget_150 : decode b_Checker_checkTarget 150 = .ok (.invokevirtual 63, 3) := by decide +kernel
theorem d_Checker_checkTarget_153 : decode b_Checker_checkTarget 153 = .ok (.ifCond .eq 7, 3) := by decide +kernel
theorem d_Checker_checkTarget_156 : decode b_Checker_checkTarget 156 = .ok (.iconst 1, 1) := by decide +kernel
theorem d_Checker_checkTarget_157 : decode b_Checker_checkTarget 157 = .ok (.goto 4, 3) := by decide +kernel
theorem d_Checker_checkTarget_160 : decode b_Checker_checkTarget 160 = .ok (.iconst 0, 1) := by decide +kernel
theorem d_Checker_checkTarget_161 : decode b_Checker_checkTarget 161 = .ok (.ireturn, 1) := by decide +kernel
set_option maxHeartbeats 4000000 in
set_option maxRecDepth 100000 in
/-- checkTarget(wire, side, n) -/
theorem p_Checker_checkTargetN (l : Launch) (dC : Nat → ClassId) (dI : Nat → Nat → Nat) (cB cI cL cZ cC cO : ClassId) (qx qc qf na df qi : Nat) (v0 v1 : Value) {L : List Nat} {G : PG} (s0 n nm : Nat) (t0 sz : Nat) (hL : gL L G) (hs : G.1 s0 = 3) (ho : ∀ z, G.2.2.1 s0 2 = some z → z < 2 ^ 31) (hlo : G.2.1 s0 3 < 100) (hhi : G.2.1 s0 4 < 100) (hsn : G.2.2.2.2.2 s0 0 = some nm) (hnm : G.1 nm = 1) (hn0 : G.2.2.1 s0 2 = none → G.2.1 s0 3 = 0 ∧ G.2.1 s0 4 = 0) (hn : n < 2 ^ 31) : Met l y_Checker_checkTarget w_Checker_checkTarget ({ frames := 3, cells := 0, slots := 0, locals := 150 }) (va_Pc [.ref qx, .null, .ref s0, .int (nI n)] (wB2 (dC, dI) cl [(cB, .byte), (cI, .int), (cL, .long), (cZ, .boolean), (cC, .char), (cO, .object "java/lang/Object")] sz t0 ([(qx, .inr (5, [.ref qc, .ref qf, .ref na, .ref df, .ref qi])), (qf, .inr (2, [v0, v1]))] ++ va_pl L (gE cO G)))) (va_Qi (fun (r : Int32) (u : (Value × Value) × PG) => r = bI (decide ((ckt G none s0 n (G.2.2.1 nm 2)).1 = none)) ∧ u.1 = fpr (ckt G none s0 n (G.2.2.1 nm 2)).1 v0 v1 ∧ u.2 = (ckt G none s0 n (G.2.2.1 nm 2)).2) (fun u t => wA (dC, dI) cl [(cB, .byte), (cI, .int), (cL, .long), (cZ, .boolean), (cC, .char), (cO, .object "java/lang/Object")] (va_A ([(qx, .inr (5, [.ref qc, .ref qf, .ref na, .ref df, .ref qi])), (qf, .inr (2, [v0, v1]))] ++ va_pl L (gE cO G)) sz) ([(qx, .inr (5, [.ref qc, .ref qf, .ref na, .ref df, .ref qi])), (qf, .inr (2, [u.1.1, u.1.2]))] ++ va_pl L (gE cO u.2)) t) (va_A ([(qx, .inr (5, [.ref qc, .ref qf, .ref na, .ref df, .ref qi])), (qf, .inr (2, [v0, v1]))] ++ va_pl L (gE cO G)) sz)) 0 0 (va_A ([(qx, .inr (5, [.ref qc, .ref qf, .ref na, .ref df, .ref qi])), (qf, .inr (2, [v0, v1]))] ++ va_pl L (gE cO G)) sz) := by
  refine Met.ofW (cc := b_Checker_checkTarget) (maxL := 5) (ret := (some ClassFile.FieldType.boolean)) (by decide) rfl ?_
  intro p e s m args below meth c s₁ B hml hv
  obtain ⟨rfl, ⟨hsz, hP, hK, hD0, hF⟩, hE⟩ := hv
  have hx := B.exec
  have hb := B.bytes
  have hr := B.returns
  have hts := atoms_spec (ws := w_Checker_checkTarget) B.pre
  have hts : ∀ w ∈ tb, w.before _ s = true := fun w h => hts w (List.mem_cons_of_mem _ h)
  have hown : s.vm.findClass R_Checker = some m.cls := findClass_of_methodNamed B.named
  have hlocks := B.notSynchronized
  subst hsz
  have hD := hD0.self (sz := s.heap.size)
  generalize hAe : va_A ([(qx, .inr (5, [.ref qc, .ref qf, .ref na, .ref df, .ref qi])), (qf, .inr (2, [v0, v1]))] ++ va_pl L (gE cO G)) s.heap.size = A at hD hF hE ⊢
  have hA : ∀ q : Nat, s.heap.size ≤ q → A q := fun q h => by rw [← hAe]; exact Or.inr h
  have hS : va_S A s.heap s.heap [] := va_S.rf
  have hP : va_P (dC, dI) cl ([(qx, .inr (5, [.ref qc, .ref qf, .ref na, .ref df, .ref qi])), (qf, .inr (2, [v0, v1]))] ++ va_pl L (gE cO G)) s.heap := hP
  have hl := lv_entry ([.ref qx, .null, .ref s0, .int (nI n)]) (n := 5) (Nat.le_of_ble_eq_true rfl)
  rw [lg_entry_eq]
  generalize (lg_sl ([.ref qx, .null, .ref s0, .int (nI n)]) ++ List.replicate (5 - (lg_sl ([.ref qx, .null, .ref s0, .int (nI n)])).length) Slot.unset).toArray = ls at hl ⊢
  have hl : lv_has ls 5 [(0, .ref qx), (1, .null), (2, .ref s0), (3, .int (nI n))] := hl
  refine lv_aload_nN hx hb d_Checker_checkTarget_0 rfl (lv_at hl 1 rfl) ?_
  refine lv_ifnullN (tgt := 11) hx hb d_Checker_checkTarget_1 (by decide) ?_
  refine lv_aload_n hx hb d_Checker_checkTarget_11 rfl (lv_at hl 0 rfl) ?_
  refine va_get (D := (dC, dI)) (ci := 5) (v := .ref qf) (C := R_Checker) (T := F_Checker) (N := 5) hx hb hts i_Checker hown hK hP 0 rfl rfl 1 (by decide) (hts _ k_352) (fun _ h9 => h9) rfl d_Checker_checkTarget_12 ?_
  refine lv_iconst (v := nI 4) hx hb d_Checker_checkTarget_15 (by decide) ?_
  refine lv_aload_n hx hb d_Checker_checkTarget_16 rfl (lv_at hl 2 rfl) ?_
  refine pq_get (D := (dC, dI)) (ci := 11) (v := .ref nm) (C := R_Side) (T := F_Side) (N := 5) hx hb hts i_Side hown hK hP (gL_m hL hs (by decide)) (gE_3 (G := G) hs) rfl 0 (by decide) (hts _ k_614) (fun _ h9 => h9) (congrArg (fun z9 => some (va_rf z9)) hsn) d_Checker_checkTarget_17 ?_
  refine pq_get (D := (dC, dI)) (ci := 7) (v := .int (oI (G.2.2.1 nm 2))) (C := R_Name) (T := F_Name) (N := 3) hx hb hts i_Name hown hK hP (gL_m hL hnm (by decide)) (gE_1 (G := G) hnm) rfl 2 (by decide) (hts _ k_150) (fun _ h9 => h9) rfl d_Checker_checkTarget_20 ?_
  refine we_i (cx := [(qf, .inr (2, [v0, v1]))]) (wr := [(qx, .inr (5, [.ref qc, .ref qf, .ref na, .ref df, .ref qi]))]) (pl := va_pl L (gE cO G)) (va_runV (As := [.int (nI 4), .int (oI (G.2.2.1 nm 2))]) (rest := []) ⟨hx, hb, hml, hown, hts⟩ (c_Fault_note l dC dI cB cI cL cZ cC cO qf (nI 4) (oI (G.2.2.1 nm 2)) _ ) (cwV 2 hts (good_V k_695 k_534 k_535 k_3 k_536) rfl rfl rfl (by decide +kernel) ⟨Nat.le_of_ble_eq_true rfl, Nat.le_of_ble_eq_true rfl⟩) (wc_preV (k0 := 1) (ci := 2) (r := (R_Fault, F_Fault, 2)) hK hP hD hS hA hF [1] (by decide) rfl rfl rfl) rfl rfl hl.1 rfl (lv_room (Nat.le_of_ble_eq_true rfl)) d_Checker_checkTarget_23 ⟨Nat.le_of_ble_eq_true rfl, Nat.le_of_ble_eq_true rfl⟩) hP hD hS hA [1] [0] rfl rfl (by decide) (by decide) (fun r_2 _ H locs w_1 hP hD hS => ?_)
  have hP : va_P (dC, dI) cl ([(qx, .inr (5, [.ref qc, .ref qf, .ref na, .ref df, .ref qi])), (qf, .inr (2, [.int (nI 4), .int (oI (G.2.2.1 nm 2))]))] ++ va_pl L (gE cO G)) H := hP
  have hD : va_D A ([(qx, .inr (5, [.ref qc, .ref qf, .ref na, .ref df, .ref qi])), (qf, .inr (2, [.int (nI 4), .int (oI (G.2.2.1 nm 2))]))] ++ va_pl L (gE cO G)) := hD
  subst w_1
  have hX : (ckt G none s0 n (G.2.2.1 nm 2)) = (some (4, G.2.2.1 nm 2), G) := rfl
  exact wr_z (x := false) hx hb hr hlocks ((.int (nI 4), .int (oI (G.2.2.1 nm 2))), G) ⟨by rw [hX]; rfl, by rw [hX]; rfl, by rw [hX]⟩ hK hP hD hS d_Checker_checkTarget_26
set_option maxHeartbeats 4000000 in
set_option maxRecDepth 100000 in
/-- checkTarget(wire, side, n) -/
theorem p_Checker_checkTargetS (l : Launch) (dC : Nat → ClassId) (dI : Nat → Nat → Nat) (cB cI cL cZ cC cO : ClassId) (qx qc qf na df qi : Nat) (v0 v1 : Value) {L : List Nat} {G : PG} (w s0 n nm : Nat) (t0 sz : Nat) (hL : gL L G) (hs : G.1 s0 = 3) (ho : ∀ z, G.2.2.1 s0 2 = some z → z < 2 ^ 31) (hlo : G.2.1 s0 3 < 100) (hhi : G.2.1 s0 4 < 100) (hsn : G.2.2.2.2.2 s0 0 = some nm) (hnm : G.1 nm = 1) (hn0 : G.2.2.1 s0 2 = none → G.2.1 s0 3 = 0 ∧ G.2.1 s0 4 = 0) (hn : n < 2 ^ 31) (hw : G.1 w = 2) (hk : G.2.1 w 1 < 3) (hwd : G.2.1 w 2 < 100) (hw16 : G.2.1 w 2 ≤ 16) (hlk : G.2.1 w 5 < 65536) : Met l y_Checker_checkTarget w_Checker_checkTarget ({ frames := 3, cells := 0, slots := 0, locals := 150 }) (va_Pc [.ref qx, .ref w, .ref s0, .int (nI n)] (wB2 (dC, dI) cl [(cB, .byte), (cI, .int), (cL, .long), (cZ, .boolean), (cC, .char), (cO, .object "java/lang/Object")] sz t0 ([(qx, .inr (5, [.ref qc, .ref qf, .ref na, .ref df, .ref qi])), (qf, .inr (2, [v0, v1]))] ++ va_pl L (gE cO G)))) (va_Qi (fun (r : Int32) (u : (Value × Value) × PG) => r = bI (decide ((ckt G (some w) s0 n (G.2.2.1 nm 2)).1 = none)) ∧ u.1 = fpr (ckt G (some w) s0 n (G.2.2.1 nm 2)).1 v0 v1 ∧ u.2 = (ckt G (some w) s0 n (G.2.2.1 nm 2)).2) (fun u t => wA (dC, dI) cl [(cB, .byte), (cI, .int), (cL, .long), (cZ, .boolean), (cC, .char), (cO, .object "java/lang/Object")] (va_A ([(qx, .inr (5, [.ref qc, .ref qf, .ref na, .ref df, .ref qi])), (qf, .inr (2, [v0, v1]))] ++ va_pl L (gE cO G)) sz) ([(qx, .inr (5, [.ref qc, .ref qf, .ref na, .ref df, .ref qi])), (qf, .inr (2, [u.1.1, u.1.2]))] ++ va_pl L (gE cO u.2)) t) (va_A ([(qx, .inr (5, [.ref qc, .ref qf, .ref na, .ref df, .ref qi])), (qf, .inr (2, [v0, v1]))] ++ va_pl L (gE cO G)) sz)) 0 0 (va_A ([(qx, .inr (5, [.ref qc, .ref qf, .ref na, .ref df, .ref qi])), (qf, .inr (2, [v0, v1]))] ++ va_pl L (gE cO G)) sz) := by
  refine Met.ofW (cc := b_Checker_checkTarget) (maxL := 5) (ret := (some ClassFile.FieldType.boolean)) (by decide) rfl ?_
  intro p e s m args below meth c s₁ B hml hv
  obtain ⟨rfl, ⟨hsz, hP, hK, hD0, hF⟩, hE⟩ := hv
  have hx := B.exec
  have hb := B.bytes
  have hr := B.returns
  have hts := atoms_spec (ws := w_Checker_checkTarget) B.pre
  have hts : ∀ w ∈ tb, w.before _ s = true := fun w h => hts w (List.mem_cons_of_mem _ h)
  have hown : s.vm.findClass R_Checker = some m.cls := findClass_of_methodNamed B.named
  have hlocks := B.notSynchronized
  subst hsz
  have hD := hD0.self (sz := s.heap.size)
  generalize hAe : va_A ([(qx, .inr (5, [.ref qc, .ref qf, .ref na, .ref df, .ref qi])), (qf, .inr (2, [v0, v1]))] ++ va_pl L (gE cO G)) s.heap.size = A at hD hF hE ⊢
  have hA : ∀ q : Nat, s.heap.size ≤ q → A q := fun q h => by rw [← hAe]; exact Or.inr h
  have hS : va_S A s.heap s.heap [] := va_S.rf
  have hP : va_P (dC, dI) cl ([(qx, .inr (5, [.ref qc, .ref qf, .ref na, .ref df, .ref qi])), (qf, .inr (2, [v0, v1]))] ++ va_pl L (gE cO G)) s.heap := hP
  have hl := lv_entry ([.ref qx, .ref w, .ref s0, .int (nI n)]) (n := 5) (Nat.le_of_ble_eq_true rfl)
  rw [lg_entry_eq]
  generalize (lg_sl ([.ref qx, .ref w, .ref s0, .int (nI n)]) ++ List.replicate (5 - (lg_sl ([.ref qx, .ref w, .ref s0, .int (nI n)])).length) Slot.unset).toArray = ls at hl ⊢
  have hl : lv_has ls 5 [(0, .ref qx), (1, .ref w), (2, .ref s0), (3, .int (nI n))] := hl
  refine lv_aload_n hx hb d_Checker_checkTarget_0 rfl (lv_at hl 1 rfl) ?_
  refine lv_ifnull hx hb d_Checker_checkTarget_1 ?_
  refine lv_aload_n hx hb d_Checker_checkTarget_4 rfl (lv_at hl 1 rfl) ?_
  refine pq_get (D := (dC, dI)) (ci := 8) (v := .int (nI (G.2.1 w 1))) (C := R_Wire) (T := F_Wire) (N := 7) hx hb hts i_Wire hown hK hP (gL_m hL hw (by decide)) (gE_2 (G := G) hw) rfl 1 (by decide) (hts _ k_219) (fun _ h9 => h9) rfl d_Checker_checkTarget_5 ?_
  refine nv_if_ne (tgt := 27) hx hb (by omega) d_Checker_checkTarget_8 (by decide) (fun c_1 => ?_) (fun c_1 => ?_)
  · refine lv_aload_n hx hb d_Checker_checkTarget_27 rfl (lv_at hl 1 rfl) ?_
    refine pq_get (D := (dC, dI)) (ci := 8) (v := .int (nI (G.2.1 w 1))) (C := R_Wire) (T := F_Wire) (N := 7) hx hb hts i_Wire hown hK hP (gL_m hL hw (by decide)) (gE_2 (G := G) hw) rfl 1 (by decide) (hts _ k_219) (fun _ h9 => h9) rfl d_Checker_checkTarget_28 ?_
    refine lv_iconst (v := nI 2) hx hb d_Checker_checkTarget_31 (by decide) ?_
    refine nv_icmp_ne (tgt := 58) hx hb (by omega) (by omega) d_Checker_checkTarget_32 (by decide) (fun c_2 => ?_) (fun c_2 => ?_)
    · refine lv_aload_n hx hb d_Checker_checkTarget_58 rfl (lv_at hl 1 rfl) ?_
      refine lv_aload_n hx hb d_Checker_checkTarget_59 rfl (lv_at hl 2 rfl) ?_
      refine wd_i (cx := []) (wr := [(qx, .inr (5, [.ref qc, .ref qf, .ref na, .ref df, .ref qi])), (qf, .inr (2, [v0, v1]))]) (pl := va_pl L (gE cO G)) (va_runS (As := [.ref w, .ref s0]) (rest := []) ⟨hx, hb, hml, hown, hts⟩ (p_Checker_rangeIsRight l dC dI cB cI cL cZ cC cO w s0 t0 _ hL hs ho hlo hhi hw hk hwd) (va_cwS 2 hts (good_S k_739 k_740 k_8 k_741) rfl rfl rfl (by decide +kernel) ⟨Nat.le_of_ble_eq_true rfl, Nat.le_of_ble_eq_true rfl⟩) (wd_preS hK hP hD hS hA hF hE [] (by decide) rfl) rfl rfl hl.1 rfl (lv_room (Nat.le_of_ble_eq_true rfl)) d_Checker_checkTarget_60 ⟨Nat.le_of_ble_eq_true rfl, Nat.le_of_ble_eq_true rfl⟩) hP hD hS hA [] [0, 1] rfl rfl (by decide) (by decide) (fun r_4 _ H locs w_3 hP hD hS => ?_)
      have hP : va_P (dC, dI) cl ([(qx, .inr (5, [.ref qc, .ref qf, .ref na, .ref df, .ref qi])), (qf, .inr (2, [v0, v1]))] ++ va_pl L (gE cO G)) H := hP
      have hD : va_D A ([(qx, .inr (5, [.ref qc, .ref qf, .ref na, .ref df, .ref qi])), (qf, .inr (2, [v0, v1]))] ++ va_pl L (gE cO G)) := hD
      subst w_3
      refine nv_bif_ne (tgt := 79) hx hb d_Checker_checkTarget_63 (by decide) (fun c_5 => ?_) (fun c_5 => ?_)
      · refine lv_aload_n hx hb d_Checker_checkTarget_79 rfl (lv_at hl 2 rfl) ?_
        refine lv_aload_n hx hb d_Checker_checkTarget_80 rfl (lv_at hl 1 rfl) ?_
        refine pq_get (D := (dC, dI)) (ci := 8) (v := .int (nI (G.2.1 w 2))) (C := R_Wire) (T := F_Wire) (N := 7) hx hb hts i_Wire hown hK hP (gL_m hL hw (by decide)) (gE_2 (G := G) hw) rfl 2 (by decide) (hts _ k_222) (fun _ h9 => h9) (congrArg (fun z9 => some (Value.int (nI z9))) rfl) d_Checker_checkTarget_81 ?_
        obtain ⟨hm1, hm2⟩ := mask_eq c_5 hw16 hn0
        have hm3 := m_set_lt2 hm2
        refine wd_i (cx := []) (wr := [(qx, .inr (5, [.ref qc, .ref qf, .ref na, .ref df, .ref qi])), (qf, .inr (2, [v0, v1]))]) (pl := va_pl L (gE cO G)) (va_runV (As := [.int (nI (G.2.1 w 2))]) (rest := []) ⟨hx, hb, hml, hown, hts⟩ (p_Side_bitMask2 l dC dI cB cI cL cZ cC cO s0 (G.2.1 w 2) t0 _ hL hs ho hlo hhi (rir_le c_5)) (cwV 1 hts (good_V k_743 k_744 k_745 k_21 k_746) rfl rfl rfl (by decide +kernel) ⟨Nat.le_of_ble_eq_true rfl, Nat.le_of_ble_eq_true rfl⟩) (wd_preV (ci := 11) (r := (R_Side, F_Side, 5)) hK hP hD hS hA hF hE [] (by decide) rfl rfl (pq_at (gL_m hL hs (by decide)) (gE_3 (G := G) hs))) rfl rfl hl.1 rfl (lv_room (Nat.le_of_ble_eq_true rfl)) d_Checker_checkTarget_84 ⟨Nat.le_of_ble_eq_true rfl, Nat.le_of_ble_eq_true rfl⟩) hP hD hS hA [] [0, 1] rfl rfl (by decide) (by decide) (fun r_7 _ H locs w_6 hP hD hS => ?_)
        have hP : va_P (dC, dI) cl ([(qx, .inr (5, [.ref qc, .ref qf, .ref na, .ref df, .ref qi])), (qf, .inr (2, [v0, v1]))] ++ va_pl L (gE cO G)) H := hP
        have hD : va_D A ([(qx, .inr (5, [.ref qc, .ref qf, .ref na, .ref df, .ref qi])), (qf, .inr (2, [v0, v1]))] ++ va_pl L (gE cO G)) := hD
        rw [hm1] at w_6
        subst w_6
        have hand : G.2.1 w 5 &&& m_set (m_bits (G.2.2.1 s0 2) (G.2.1 s0 3) (G.2.1 s0 4) (G.2.1 w 2)) (G.2.1 s0 3) ≤ G.2.1 w 5 := Nat.and_le_left
        refine lv_istore (lv' := [(4, .int (nI (m_set (m_bits (G.2.2.1 s0 2) (G.2.1 s0 3) (G.2.1 s0 4) (G.2.1 w 2)) (G.2.1 s0 3)))), (0, .ref qx), (1, .ref w), (2, .ref s0), (3, .int (nI n))]) hx hb d_Checker_checkTarget_87 hl (by decide) rfl (fun ls hl => ?_)
        refine lv_aload_n hx hb d_Checker_checkTarget_89 rfl (lv_at hl 2 rfl) ?_
        refine pq_get (D := (dC, dI)) (ci := 8) (v := .int (nI (G.2.1 w 5))) (C := R_Wire) (T := F_Wire) (N := 7) hx hb hts i_Wire hown hK hP (gL_m hL hw (by decide)) (gE_2 (G := G) hw) rfl 5 (by decide) (hts _ k_232) (fun _ h9 => h9) (congrArg (fun z9 => some (Value.int (nI z9))) rfl) d_Checker_checkTarget_90 ?_
        refine lv_iload hx hb d_Checker_checkTarget_93 (lv_at hl 0 rfl) ?_
        refine nv_iand hx hb d_Checker_checkTarget_95 ?_
        refine nv_if_eq (tgt := 115) hx hb (by omega) d_Checker_checkTarget_96 (by decide) (fun c_8 => ?_) (fun c_8 => ?_)
        · refine lv_aload_n hx hb d_Checker_checkTarget_115 rfl (lv_at hl 2 rfl) ?_
          refine lv_dup hx hb d_Checker_checkTarget_116 rfl ?_
          refine pq_get (D := (dC, dI)) (ci := 8) (v := .int (nI (G.2.1 w 5))) (C := R_Wire) (T := F_Wire) (N := 7) hx hb hts i_Wire hown hK hP (gL_m hL hw (by decide)) (gE_2 (G := G) hw) rfl 5 (by decide) (hts _ k_232) (fun _ h9 => h9) (congrArg (fun z9 => some (Value.int (nI z9))) rfl) d_Checker_checkTarget_117 ?_
          refine lv_iload hx hb d_Checker_checkTarget_120 (lv_at hl 0 rfl) ?_
          refine nv_ior hx hb d_Checker_checkTarget_122 ?_
          refine pq_put (D := (dC, dI)) (ci := 8) (v := .int (nI ((G.2.1 w 5) ||| (m_set (m_bits (G.2.2.1 s0 2) (G.2.1 s0 3) (G.2.1 s0 4) (G.2.1 w 2)) (G.2.1 s0 3))))) (ty := .int) (C := R_Wire) (T := F_Wire) (N := 7) hx hb hts i_Wire t_Wire t_Wire_ok n_Wire hown hK hP hD hS (gL_m hL hw (by decide)) (gE_2 (G := G) hw) rfl 5 (by decide) (hts _ k_232) (fun _ h9 => h9) rfl (by decide +kernel) rfl rfl (Nat.le_of_ble_eq_true rfl) (uE_2_5 (G := G) (v := (G.2.1 w 5) ||| (m_set (m_bits (G.2.2.1 s0 2) (G.2.1 s0 3) (G.2.1 s0 4) (G.2.1 w 2)) (G.2.1 s0 3))) hw) d_Checker_checkTarget_123 (fun H locs hP hD hS => ?_)
          have hP : va_P (dC, dI) cl ([(qx, .inr (5, [.ref qc, .ref qf, .ref na, .ref df, .ref qi])), (qf, .inr (2, [v0, v1]))] ++ va_pl L (gE cO (gN G w 5 ((G.2.1 w 5) ||| (m_set (m_bits (G.2.2.1 s0 2) (G.2.1 s0 3) (G.2.1 s0 4) (G.2.1 w 2)) (G.2.1 s0 3)))))) H := hP
          have hD : va_D A ([(qx, .inr (5, [.ref qc, .ref qf, .ref na, .ref df, .ref qi])), (qf, .inr (2, [v0, v1]))] ++ va_pl L (gE cO (gN G w 5 ((G.2.1 w 5) ||| (m_set (m_bits (G.2.2.1 s0 2) (G.2.1 s0 3) (G.2.1 s0 4) (G.2.1 w 2)) (G.2.1 s0 3)))))) := hD
          refine lv_aload_n hx hb d_Checker_checkTarget_126 rfl (lv_at hl 3 rfl) ?_
          refine lv_aload_n hx hb d_Checker_checkTarget_127 rfl (lv_at hl 2 rfl) ?_
          refine pq_get (D := (dC, dI)) (ci := 8) (v := .int (nI (G.2.1 w 2))) (C := R_Wire) (T := F_Wire) (N := 7) hx hb hts i_Wire hown hK hP (gL_m hL hw (by decide)) (gE_2 (G := (gN G w 5 ((G.2.1 w 5) ||| (m_set (m_bits (G.2.2.1 s0 2) (G.2.1 s0 3) (G.2.1 s0 4) (G.2.1 w 2)) (G.2.1 s0 3))))) hw) rfl 2 (by decide) (hts _ k_222) (fun _ h9 => h9) (congrArg (fun z9 => some (Value.int (nI z9))) ((up2_k _ _ _ _ (by decide)).trans rfl)) d_Checker_checkTarget_128 ?_
          refine wd_i (cx := []) (wr := [(qx, .inr (5, [.ref qc, .ref qf, .ref na, .ref df, .ref qi])), (qf, .inr (2, [v0, v1]))]) (pl := va_pl L (gE cO (gN G w 5 ((G.2.1 w 5) ||| (m_set (m_bits (G.2.2.1 s0 2) (G.2.1 s0 3) (G.2.1 s0 4) (G.2.1 w 2)) (G.2.1 s0 3)))))) (va_runV (As := [.int (nI (G.2.1 w 2))]) (rest := []) ⟨hx, hb, hml, hown, hts⟩ (p_Side_width2 l dC dI cB cI cL cZ cC cO (G := gN G w 5 ((G.2.1 w 5) ||| (m_set (m_bits (G.2.2.1 s0 2) (G.2.1 s0 3) (G.2.1 s0 4) (G.2.1 w 2)) (G.2.1 s0 3)))) s0 (G.2.1 w 2) t0 _ hL hs ho (by show up2 _ _ _ _ _ _ < _; rw [up2_k _ _ _ _ (by decide)]; exact hlo) (by show up2 _ _ _ _ _ _ < _; rw [up2_k _ _ _ _ (by decide)]; exact hhi) (by show _ → up2 _ _ _ _ _ _ ≤ up2 _ _ _ _ _ _; rw [up2_k _ _ _ _ (by decide), up2_k _ _ _ _ (by decide)]; exact rir_le c_5)) (cwV 1 hts (good_V k_714 k_715 k_716 k_21 k_717) rfl rfl rfl (by decide +kernel) ⟨Nat.le_of_ble_eq_true rfl, Nat.le_of_ble_eq_true rfl⟩) (wd_preV (ci := 11) (r := (R_Side, F_Side, 5)) hK hP hD hS hA hF hE [] (by decide) rfl rfl (pq_at (gL_m hL hs (by decide)) (gE_3 (G := (gN G w 5 ((G.2.1 w 5) ||| (m_set (m_bits (G.2.2.1 s0 2) (G.2.1 s0 3) (G.2.1 s0 4) (G.2.1 w 2)) (G.2.1 s0 3))))) hs))) rfl rfl hl.1 rfl (lv_room (Nat.le_of_ble_eq_true rfl)) d_Checker_checkTarget_131 ⟨Nat.le_of_ble_eq_true rfl, Nat.le_of_ble_eq_true rfl⟩) hP hD hS hA [] [0, 1] rfl rfl (by decide) (by decide) (fun r_10 _ H locs w_9 hP hD hS => ?_)
          have hP : va_P (dC, dI) cl ([(qx, .inr (5, [.ref qc, .ref qf, .ref na, .ref df, .ref qi])), (qf, .inr (2, [v0, v1]))] ++ va_pl L (gE cO (gN G w 5 ((G.2.1 w 5) ||| (m_set (m_bits (G.2.2.1 s0 2) (G.2.1 s0 3) (G.2.1 s0 4) (G.2.1 w 2)) (G.2.1 s0 3)))))) H := hP
          have hD : va_D A ([(qx, .inr (5, [.ref qc, .ref qf, .ref na, .ref df, .ref qi])), (qf, .inr (2, [v0, v1]))] ++ va_pl L (gE cO (gN G w 5 ((G.2.1 w 5) ||| (m_set (m_bits (G.2.2.1 s0 2) (G.2.1 s0 3) (G.2.1 s0 4) (G.2.1 w 2)) (G.2.1 s0 3)))))) := hD
          have hwz : r_10 = nI (m_bits (G.2.2.1 s0 2) (G.2.1 s0 3) (G.2.1 s0 4) (G.2.1 w 2)) := by rw [w_9]; show nI (m_bits _ (up2 _ _ _ _ _ _) (up2 _ _ _ _ _ _) _) = _; rw [up2_k _ _ _ _ (by decide), up2_k _ _ _ _ (by decide)]
          subst hwz
          refine lv_iload_n hx hb d_Checker_checkTarget_134 rfl (lv_at hl 4 rfl) ?_
          refine nv_icmp_eq (tgt := 156) hx hb (by omega) (by omega) d_Checker_checkTarget_135 (by decide) (fun c_11 => ?_) (fun c_11 => ?_)
          · refine lv_iconst (v := nI 1) hx hb d_Checker_checkTarget_156 (by decide) ?_
            refine lv_goto (tgt := 161) hx hb d_Checker_checkTarget_157 (by decide) ?_
            have hX : (ckt G (some w) s0 n (G.2.2.1 nm 2)) = (none, gN G w 5 ((G.2.1 w 5) ||| (m_set (m_bits (G.2.2.1 s0 2) (G.2.1 s0 3) (G.2.1 s0 4) (G.2.1 w 2)) (G.2.1 s0 3)))) := by unfold ckt; show (if _ then _ else _) = _; rw [if_neg c_1, if_neg (fun q9 => c_2 q9.1), if_pos c_5, if_pos c_8, if_pos c_11]
            exact wr_z (x := true) hx hb hr hlocks ((v0, v1), gN G w 5 ((G.2.1 w 5) ||| (m_set (m_bits (G.2.2.1 s0 2) (G.2.1 s0 3) (G.2.1 s0 4) (G.2.1 w 2)) (G.2.1 s0 3)))) ⟨by rw [hX]; rfl, by rw [hX]; rfl, by rw [hX]⟩ hK hP hD hS d_Checker_checkTarget_161
          · refine lv_aload_n hx hb d_Checker_checkTarget_138 rfl (lv_at hl 1 rfl) ?_
            refine va_get (D := (dC, dI)) (ci := 5) (v := .ref qf) (C := R_Checker) (T := F_Checker) (N := 5) hx hb hts i_Checker hown hK hP 0 rfl rfl 1 (by decide) (hts _ k_352) (fun _ h9 => h9) rfl d_Checker_checkTarget_139 ?_
            refine lv_iconst (v := nI 5) hx hb d_Checker_checkTarget_142 (by decide) ?_
            refine lv_aload_n hx hb d_Checker_checkTarget_143 rfl (lv_at hl 3 rfl) ?_
            refine pq_get (D := (dC, dI)) (ci := 11) (v := .ref nm) (C := R_Side) (T := F_Side) (N := 5) hx hb hts i_Side hown hK hP (gL_m hL hs (by decide)) (gE_3 (G := (gN G w 5 ((G.2.1 w 5) ||| (m_set (m_bits (G.2.2.1 s0 2) (G.2.1 s0 3) (G.2.1 s0 4) (G.2.1 w 2)) (G.2.1 s0 3))))) hs) rfl 0 (by decide) (hts _ k_614) (fun _ h9 => h9) (congrArg (fun z9 => some (va_rf z9)) hsn) d_Checker_checkTarget_144 ?_
            refine pq_get (D := (dC, dI)) (ci := 7) (v := .int (oI ((gN G w 5 ((G.2.1 w 5) ||| (m_set (m_bits (G.2.2.1 s0 2) (G.2.1 s0 3) (G.2.1 s0 4) (G.2.1 w 2)) (G.2.1 s0 3)))).2.2.1 nm 2))) (C := R_Name) (T := F_Name) (N := 3) hx hb hts i_Name hown hK hP (gL_m hL hnm (by decide)) (gE_1 (G := (gN G w 5 ((G.2.1 w 5) ||| (m_set (m_bits (G.2.2.1 s0 2) (G.2.1 s0 3) (G.2.1 s0 4) (G.2.1 w 2)) (G.2.1 s0 3))))) hnm) rfl 2 (by decide) (hts _ k_150) (fun _ h9 => h9) rfl d_Checker_checkTarget_147 ?_
            refine we_i (cx := [(qf, .inr (2, [v0, v1]))]) (wr := [(qx, .inr (5, [.ref qc, .ref qf, .ref na, .ref df, .ref qi]))]) (pl := va_pl L (gE cO (gN G w 5 ((G.2.1 w 5) ||| (m_set (m_bits (G.2.2.1 s0 2) (G.2.1 s0 3) (G.2.1 s0 4) (G.2.1 w 2)) (G.2.1 s0 3)))))) (va_runV (As := [.int (nI 5), .int (oI ((gN G w 5 ((G.2.1 w 5) ||| (m_set (m_bits (G.2.2.1 s0 2) (G.2.1 s0 3) (G.2.1 s0 4) (G.2.1 w 2)) (G.2.1 s0 3)))).2.2.1 nm 2))]) (rest := []) ⟨hx, hb, hml, hown, hts⟩ (c_Fault_note l dC dI cB cI cL cZ cC cO qf (nI 5) (oI ((gN G w 5 ((G.2.1 w 5) ||| (m_set (m_bits (G.2.2.1 s0 2) (G.2.1 s0 3) (G.2.1 s0 4) (G.2.1 w 2)) (G.2.1 s0 3)))).2.2.1 nm 2)) _ ) (cwV 2 hts (good_V k_695 k_534 k_535 k_3 k_536) rfl rfl rfl (by decide +kernel) ⟨Nat.le_of_ble_eq_true rfl, Nat.le_of_ble_eq_true rfl⟩) (wc_preV (k0 := 1) (ci := 2) (r := (R_Fault, F_Fault, 2)) hK hP hD hS hA hF [1] (by decide) rfl rfl rfl) rfl rfl hl.1 rfl (lv_room (Nat.le_of_ble_eq_true rfl)) d_Checker_checkTarget_150 ⟨Nat.le_of_ble_eq_true rfl, Nat.le_of_ble_eq_true rfl⟩) hP hD hS hA [1] [0] rfl rfl (by decide) (by decide) (fun r_13 _ H locs w_12 hP hD hS => ?_)
            have hP : va_P (dC, dI) cl ([(qx, .inr (5, [.ref qc, .ref qf, .ref na, .ref df, .ref qi])), (qf, .inr (2, [.int (nI 5), .int (oI ((gN G w 5 ((G.2.1 w 5) ||| (m_set (m_bits (G.2.2.1 s0 2) (G.2.1 s0 3) (G.2.1 s0 4) (G.2.1 w 2)) (G.2.1 s0 3)))).2.2.1 nm 2))]))] ++ va_pl L (gE cO (gN G w 5 ((G.2.1 w 5) ||| (m_set (m_bits (G.2.2.1 s0 2) (G.2.1 s0 3) (G.2.1 s0 4) (G.2.1 w 2)) (G.2.1 s0 3)))))) H := hP
            have hD : va_D A ([(qx, .inr (5, [.ref qc, .ref qf, .ref na, .ref df, .ref qi])), (qf, .inr (2, [.int (nI 5), .int (oI ((gN G w 5 ((G.2.1 w 5) ||| (m_set (m_bits (G.2.2.1 s0 2) (G.2.1 s0 3) (G.2.1 s0 4) (G.2.1 w 2)) (G.2.1 s0 3)))).2.2.1 nm 2))]))] ++ va_pl L (gE cO (gN G w 5 ((G.2.1 w 5) ||| (m_set (m_bits (G.2.2.1 s0 2) (G.2.1 s0 3) (G.2.1 s0 4) (G.2.1 w 2)) (G.2.1 s0 3)))))) := hD
            subst w_12
            refine nv_bif_eq (tgt := 160) hx hb d_Checker_checkTarget_153 (by decide) (fun c_14 => ?_) (fun c_14 => ?_)
            · refine lv_iconst (v := nI 0) hx hb d_Checker_checkTarget_160 (by decide) ?_
              have hX : (ckt G (some w) s0 n (G.2.2.1 nm 2)) = (some (5, (gN G w 5 ((G.2.1 w 5) ||| (m_set (m_bits (G.2.2.1 s0 2) (G.2.1 s0 3) (G.2.1 s0 4) (G.2.1 w 2)) (G.2.1 s0 3)))).2.2.1 nm 2), gN G w 5 ((G.2.1 w 5) ||| (m_set (m_bits (G.2.2.1 s0 2) (G.2.1 s0 3) (G.2.1 s0 4) (G.2.1 w 2)) (G.2.1 s0 3)))) := by unfold ckt; show (if _ then _ else _) = _; rw [if_neg c_1, if_neg (fun q9 => c_2 q9.1), if_pos c_5, if_pos c_8, if_neg c_11]
              exact wr_z (x := false) hx hb hr hlocks ((.int (nI 5), .int (oI ((gN G w 5 ((G.2.1 w 5) ||| (m_set (m_bits (G.2.2.1 s0 2) (G.2.1 s0 3) (G.2.1 s0 4) (G.2.1 w 2)) (G.2.1 s0 3)))).2.2.1 nm 2))), gN G w 5 ((G.2.1 w 5) ||| (m_set (m_bits (G.2.2.1 s0 2) (G.2.1 s0 3) (G.2.1 s0 4) (G.2.1 w 2)) (G.2.1 s0 3)))) ⟨by rw [hX]; rfl, by rw [hX]; rfl, by rw [hX]⟩ hK hP hD hS d_Checker_checkTarget_161
            · exact absurd c_14 (by decide)
        · refine lv_aload_n hx hb d_Checker_checkTarget_99 rfl (lv_at hl 1 rfl) ?_
          refine va_get (D := (dC, dI)) (ci := 5) (v := .ref qf) (C := R_Checker) (T := F_Checker) (N := 5) hx hb hts i_Checker hown hK hP 0 rfl rfl 1 (by decide) (hts _ k_352) (fun _ h9 => h9) rfl d_Checker_checkTarget_100 ?_
          refine lv_iconst (v := nI 3) hx hb d_Checker_checkTarget_103 (by decide) ?_
          refine lv_aload_n hx hb d_Checker_checkTarget_104 rfl (lv_at hl 3 rfl) ?_
          refine pq_get (D := (dC, dI)) (ci := 11) (v := .ref nm) (C := R_Side) (T := F_Side) (N := 5) hx hb hts i_Side hown hK hP (gL_m hL hs (by decide)) (gE_3 (G := G) hs) rfl 0 (by decide) (hts _ k_614) (fun _ h9 => h9) (congrArg (fun z9 => some (va_rf z9)) hsn) d_Checker_checkTarget_105 ?_
          refine pq_get (D := (dC, dI)) (ci := 7) (v := .int (oI (G.2.2.1 nm 2))) (C := R_Name) (T := F_Name) (N := 3) hx hb hts i_Name hown hK hP (gL_m hL hnm (by decide)) (gE_1 (G := G) hnm) rfl 2 (by decide) (hts _ k_150) (fun _ h9 => h9) rfl d_Checker_checkTarget_108 ?_
          refine we_i (cx := [(qf, .inr (2, [v0, v1]))]) (wr := [(qx, .inr (5, [.ref qc, .ref qf, .ref na, .ref df, .ref qi]))]) (pl := va_pl L (gE cO G)) (va_runV (As := [.int (nI 3), .int (oI (G.2.2.1 nm 2))]) (rest := []) ⟨hx, hb, hml, hown, hts⟩ (c_Fault_note l dC dI cB cI cL cZ cC cO qf (nI 3) (oI (G.2.2.1 nm 2)) _ ) (cwV 2 hts (good_V k_695 k_534 k_535 k_3 k_536) rfl rfl rfl (by decide +kernel) ⟨Nat.le_of_ble_eq_true rfl, Nat.le_of_ble_eq_true rfl⟩) (wc_preV (k0 := 1) (ci := 2) (r := (R_Fault, F_Fault, 2)) hK hP hD hS hA hF [1] (by decide) rfl rfl rfl) rfl rfl hl.1 rfl (lv_room (Nat.le_of_ble_eq_true rfl)) d_Checker_checkTarget_111 ⟨Nat.le_of_ble_eq_true rfl, Nat.le_of_ble_eq_true rfl⟩) hP hD hS hA [1] [0] rfl rfl (by decide) (by decide) (fun r_16 _ H locs w_15 hP hD hS => ?_)
          have hP : va_P (dC, dI) cl ([(qx, .inr (5, [.ref qc, .ref qf, .ref na, .ref df, .ref qi])), (qf, .inr (2, [.int (nI 3), .int (oI (G.2.2.1 nm 2))]))] ++ va_pl L (gE cO G)) H := hP
          have hD : va_D A ([(qx, .inr (5, [.ref qc, .ref qf, .ref na, .ref df, .ref qi])), (qf, .inr (2, [.int (nI 3), .int (oI (G.2.2.1 nm 2))]))] ++ va_pl L (gE cO G)) := hD
          subst w_15
          have hX : (ckt G (some w) s0 n (G.2.2.1 nm 2)) = (some (3, G.2.2.1 nm 2), G) := by unfold ckt; show (if _ then _ else _) = _; rw [if_neg c_1, if_neg (fun q9 => c_2 q9.1), if_pos c_5, if_neg c_8]
          exact wr_z (x := false) hx hb hr hlocks ((.int (nI 3), .int (oI (G.2.2.1 nm 2))), G) ⟨by rw [hX]; rfl, by rw [hX]; rfl, by rw [hX]⟩ hK hP hD hS d_Checker_checkTarget_114
      · refine lv_aload_n hx hb d_Checker_checkTarget_66 rfl (lv_at hl 0 rfl) ?_
        refine va_get (D := (dC, dI)) (ci := 5) (v := .ref qf) (C := R_Checker) (T := F_Checker) (N := 5) hx hb hts i_Checker hown hK hP 0 rfl rfl 1 (by decide) (hts _ k_352) (fun _ h9 => h9) rfl d_Checker_checkTarget_67 ?_
        refine lv_iconst (v := nI 5) hx hb d_Checker_checkTarget_70 (by decide) ?_
        refine lv_aload_n hx hb d_Checker_checkTarget_71 rfl (lv_at hl 2 rfl) ?_
        refine pq_get (D := (dC, dI)) (ci := 11) (v := .int (oI (G.2.2.1 s0 2))) (C := R_Side) (T := F_Side) (N := 5) hx hb hts i_Side hown hK hP (gL_m hL hs (by decide)) (gE_3 (G := G) hs) rfl 2 (by decide) (hts _ k_620) (fun _ h9 => h9) rfl d_Checker_checkTarget_72 ?_
        refine we_i (cx := [(qf, .inr (2, [v0, v1]))]) (wr := [(qx, .inr (5, [.ref qc, .ref qf, .ref na, .ref df, .ref qi]))]) (pl := va_pl L (gE cO G)) (va_runV (As := [.int (nI 5), .int (oI (G.2.2.1 s0 2))]) (rest := []) ⟨hx, hb, hml, hown, hts⟩ (c_Fault_note l dC dI cB cI cL cZ cC cO qf (nI 5) (oI (G.2.2.1 s0 2)) _ ) (cwV 2 hts (good_V k_695 k_534 k_535 k_3 k_536) rfl rfl rfl (by decide +kernel) ⟨Nat.le_of_ble_eq_true rfl, Nat.le_of_ble_eq_true rfl⟩) (wc_preV (k0 := 1) (ci := 2) (r := (R_Fault, F_Fault, 2)) hK hP hD hS hA hF [1] (by decide) rfl rfl rfl) rfl rfl hl.1 rfl (lv_room (Nat.le_of_ble_eq_true rfl)) d_Checker_checkTarget_75 ⟨Nat.le_of_ble_eq_true rfl, Nat.le_of_ble_eq_true rfl⟩) hP hD hS hA [1] [0] rfl rfl (by decide) (by decide) (fun r_18 _ H locs w_17 hP hD hS => ?_)
        have hP : va_P (dC, dI) cl ([(qx, .inr (5, [.ref qc, .ref qf, .ref na, .ref df, .ref qi])), (qf, .inr (2, [.int (nI 5), .int (oI (G.2.2.1 s0 2))]))] ++ va_pl L (gE cO G)) H := hP
        have hD : va_D A ([(qx, .inr (5, [.ref qc, .ref qf, .ref na, .ref df, .ref qi])), (qf, .inr (2, [.int (nI 5), .int (oI (G.2.2.1 s0 2))]))] ++ va_pl L (gE cO G)) := hD
        subst w_17
        have hX : (ckt G (some w) s0 n (G.2.2.1 nm 2)) = (some (5, G.2.2.1 s0 2), G) := by unfold ckt; show (if _ then _ else _) = _; rw [if_neg c_1, if_neg (fun q9 => c_2 q9.1), if_neg (by rw [c_5]; decide)]
        exact wr_z (x := false) hx hb hr hlocks ((.int (nI 5), .int (oI (G.2.2.1 s0 2))), G) ⟨by rw [hX]; rfl, by rw [hX]; rfl, by rw [hX]⟩ hK hP hD hS d_Checker_checkTarget_78
    · refine lv_aload_n hx hb d_Checker_checkTarget_35 rfl (lv_at hl 1 rfl) ?_
      refine pq_get (D := (dC, dI)) (ci := 8) (v := .int (nI (G.2.1 w 5))) (C := R_Wire) (T := F_Wire) (N := 7) hx hb hts i_Wire hown hK hP (gL_m hL hw (by decide)) (gE_2 (G := G) hw) rfl 5 (by decide) (hts _ k_232) (fun _ h9 => h9) (congrArg (fun z9 => some (Value.int (nI z9))) rfl) d_Checker_checkTarget_36 ?_
      refine nv_if_eq (tgt := 58) hx hb (by omega) d_Checker_checkTarget_39 (by decide) (fun c_19 => ?_) (fun c_19 => ?_)
      · refine lv_aload_n hx hb d_Checker_checkTarget_58 rfl (lv_at hl 1 rfl) ?_
        refine lv_aload_n hx hb d_Checker_checkTarget_59 rfl (lv_at hl 2 rfl) ?_
        refine wd_i (cx := []) (wr := [(qx, .inr (5, [.ref qc, .ref qf, .ref na, .ref df, .ref qi])), (qf, .inr (2, [v0, v1]))]) (pl := va_pl L (gE cO G)) (va_runS (As := [.ref w, .ref s0]) (rest := []) ⟨hx, hb, hml, hown, hts⟩ (p_Checker_rangeIsRight l dC dI cB cI cL cZ cC cO w s0 t0 _ hL hs ho hlo hhi hw hk hwd) (va_cwS 2 hts (good_S k_739 k_740 k_8 k_741) rfl rfl rfl (by decide +kernel) ⟨Nat.le_of_ble_eq_true rfl, Nat.le_of_ble_eq_true rfl⟩) (wd_preS hK hP hD hS hA hF hE [] (by decide) rfl) rfl rfl hl.1 rfl (lv_room (Nat.le_of_ble_eq_true rfl)) d_Checker_checkTarget_60 ⟨Nat.le_of_ble_eq_true rfl, Nat.le_of_ble_eq_true rfl⟩) hP hD hS hA [] [0, 1] rfl rfl (by decide) (by decide) (fun r_21 _ H locs w_20 hP hD hS => ?_)
        have hP : va_P (dC, dI) cl ([(qx, .inr (5, [.ref qc, .ref qf, .ref na, .ref df, .ref qi])), (qf, .inr (2, [v0, v1]))] ++ va_pl L (gE cO G)) H := hP
        have hD : va_D A ([(qx, .inr (5, [.ref qc, .ref qf, .ref na, .ref df, .ref qi])), (qf, .inr (2, [v0, v1]))] ++ va_pl L (gE cO G)) := hD
        subst w_20
        refine nv_bif_ne (tgt := 79) hx hb d_Checker_checkTarget_63 (by decide) (fun c_22 => ?_) (fun c_22 => ?_)
        · refine lv_aload_n hx hb d_Checker_checkTarget_79 rfl (lv_at hl 2 rfl) ?_
          refine lv_aload_n hx hb d_Checker_checkTarget_80 rfl (lv_at hl 1 rfl) ?_
          refine pq_get (D := (dC, dI)) (ci := 8) (v := .int (nI (G.2.1 w 2))) (C := R_Wire) (T := F_Wire) (N := 7) hx hb hts i_Wire hown hK hP (gL_m hL hw (by decide)) (gE_2 (G := G) hw) rfl 2 (by decide) (hts _ k_222) (fun _ h9 => h9) (congrArg (fun z9 => some (Value.int (nI z9))) rfl) d_Checker_checkTarget_81 ?_
          obtain ⟨hm1, hm2⟩ := mask_eq c_22 hw16 hn0
          have hm3 := m_set_lt2 hm2
          refine wd_i (cx := []) (wr := [(qx, .inr (5, [.ref qc, .ref qf, .ref na, .ref df, .ref qi])), (qf, .inr (2, [v0, v1]))]) (pl := va_pl L (gE cO G)) (va_runV (As := [.int (nI (G.2.1 w 2))]) (rest := []) ⟨hx, hb, hml, hown, hts⟩ (p_Side_bitMask2 l dC dI cB cI cL cZ cC cO s0 (G.2.1 w 2) t0 _ hL hs ho hlo hhi (rir_le c_22)) (cwV 1 hts (good_V k_743 k_744 k_745 k_21 k_746) rfl rfl rfl (by decide +kernel) ⟨Nat.le_of_ble_eq_true rfl, Nat.le_of_ble_eq_true rfl⟩) (wd_preV (ci := 11) (r := (R_Side, F_Side, 5)) hK hP hD hS hA hF hE [] (by decide) rfl rfl (pq_at (gL_m hL hs (by decide)) (gE_3 (G := G) hs))) rfl rfl hl.1 rfl (lv_room (Nat.le_of_ble_eq_true rfl)) d_Checker_checkTarget_84 ⟨Nat.le_of_ble_eq_true rfl, Nat.le_of_ble_eq_true rfl⟩) hP hD hS hA [] [0, 1] rfl rfl (by decide) (by decide) (fun r_24 _ H locs w_23 hP hD hS => ?_)
          have hP : va_P (dC, dI) cl ([(qx, .inr (5, [.ref qc, .ref qf, .ref na, .ref df, .ref qi])), (qf, .inr (2, [v0, v1]))] ++ va_pl L (gE cO G)) H := hP
          have hD : va_D A ([(qx, .inr (5, [.ref qc, .ref qf, .ref na, .ref df, .ref qi])), (qf, .inr (2, [v0, v1]))] ++ va_pl L (gE cO G)) := hD
          rw [hm1] at w_23
          subst w_23
          have hand : G.2.1 w 5 &&& m_set (m_bits (G.2.2.1 s0 2) (G.2.1 s0 3) (G.2.1 s0 4) (G.2.1 w 2)) (G.2.1 s0 3) ≤ G.2.1 w 5 := Nat.and_le_left
          refine lv_istore (lv' := [(4, .int (nI (m_set (m_bits (G.2.2.1 s0 2) (G.2.1 s0 3) (G.2.1 s0 4) (G.2.1 w 2)) (G.2.1 s0 3)))), (0, .ref qx), (1, .ref w), (2, .ref s0), (3, .int (nI n))]) hx hb d_Checker_checkTarget_87 hl (by decide) rfl (fun ls hl => ?_)
          refine lv_aload_n hx hb d_Checker_checkTarget_89 rfl (lv_at hl 2 rfl) ?_
          refine pq_get (D := (dC, dI)) (ci := 8) (v := .int (nI (G.2.1 w 5))) (C := R_Wire) (T := F_Wire) (N := 7) hx hb hts i_Wire hown hK hP (gL_m hL hw (by decide)) (gE_2 (G := G) hw) rfl 5 (by decide) (hts _ k_232) (fun _ h9 => h9) (congrArg (fun z9 => some (Value.int (nI z9))) rfl) d_Checker_checkTarget_90 ?_
          refine lv_iload hx hb d_Checker_checkTarget_93 (lv_at hl 0 rfl) ?_
          refine nv_iand hx hb d_Checker_checkTarget_95 ?_
          refine nv_if_eq (tgt := 115) hx hb (by omega) d_Checker_checkTarget_96 (by decide) (fun c_25 => ?_) (fun c_25 => ?_)
          · refine lv_aload_n hx hb d_Checker_checkTarget_115 rfl (lv_at hl 2 rfl) ?_
            refine lv_dup hx hb d_Checker_checkTarget_116 rfl ?_
            refine pq_get (D := (dC, dI)) (ci := 8) (v := .int (nI (G.2.1 w 5))) (C := R_Wire) (T := F_Wire) (N := 7) hx hb hts i_Wire hown hK hP (gL_m hL hw (by decide)) (gE_2 (G := G) hw) rfl 5 (by decide) (hts _ k_232) (fun _ h9 => h9) (congrArg (fun z9 => some (Value.int (nI z9))) rfl) d_Checker_checkTarget_117 ?_
            refine lv_iload hx hb d_Checker_checkTarget_120 (lv_at hl 0 rfl) ?_
            refine nv_ior hx hb d_Checker_checkTarget_122 ?_
            refine pq_put (D := (dC, dI)) (ci := 8) (v := .int (nI ((G.2.1 w 5) ||| (m_set (m_bits (G.2.2.1 s0 2) (G.2.1 s0 3) (G.2.1 s0 4) (G.2.1 w 2)) (G.2.1 s0 3))))) (ty := .int) (C := R_Wire) (T := F_Wire) (N := 7) hx hb hts i_Wire t_Wire t_Wire_ok n_Wire hown hK hP hD hS (gL_m hL hw (by decide)) (gE_2 (G := G) hw) rfl 5 (by decide) (hts _ k_232) (fun _ h9 => h9) rfl (by decide +kernel) rfl rfl (Nat.le_of_ble_eq_true rfl) (uE_2_5 (G := G) (v := (G.2.1 w 5) ||| (m_set (m_bits (G.2.2.1 s0 2) (G.2.1 s0 3) (G.2.1 s0 4) (G.2.1 w 2)) (G.2.1 s0 3))) hw) d_Checker_checkTarget_123 (fun H locs hP hD hS => ?_)
            have hP : va_P (dC, dI) cl ([(qx, .inr (5, [.ref qc, .ref qf, .ref na, .ref df, .ref qi])), (qf, .inr (2, [v0, v1]))] ++ va_pl L (gE cO (gN G w 5 ((G.2.1 w 5) ||| (m_set (m_bits (G.2.2.1 s0 2) (G.2.1 s0 3) (G.2.1 s0 4) (G.2.1 w 2)) (G.2.1 s0 3)))))) H := hP
            have hD : va_D A ([(qx, .inr (5, [.ref qc, .ref qf, .ref na, .ref df, .ref qi])), (qf, .inr (2, [v0, v1]))] ++ va_pl L (gE cO (gN G w 5 ((G.2.1 w 5) ||| (m_set (m_bits (G.2.2.1 s0 2) (G.2.1 s0 3) (G.2.1 s0 4) (G.2.1 w 2)) (G.2.1 s0 3)))))) := hD
            refine lv_aload_n hx hb d_Checker_checkTarget_126 rfl (lv_at hl 3 rfl) ?_
            refine lv_aload_n hx hb d_Checker_checkTarget_127 rfl (lv_at hl 2 rfl) ?_
            refine pq_get (D := (dC, dI)) (ci := 8) (v := .int (nI (G.2.1 w 2))) (C := R_Wire) (T := F_Wire) (N := 7) hx hb hts i_Wire hown hK hP (gL_m hL hw (by decide)) (gE_2 (G := (gN G w 5 ((G.2.1 w 5) ||| (m_set (m_bits (G.2.2.1 s0 2) (G.2.1 s0 3) (G.2.1 s0 4) (G.2.1 w 2)) (G.2.1 s0 3))))) hw) rfl 2 (by decide) (hts _ k_222) (fun _ h9 => h9) (congrArg (fun z9 => some (Value.int (nI z9))) ((up2_k _ _ _ _ (by decide)).trans rfl)) d_Checker_checkTarget_128 ?_
            refine wd_i (cx := []) (wr := [(qx, .inr (5, [.ref qc, .ref qf, .ref na, .ref df, .ref qi])), (qf, .inr (2, [v0, v1]))]) (pl := va_pl L (gE cO (gN G w 5 ((G.2.1 w 5) ||| (m_set (m_bits (G.2.2.1 s0 2) (G.2.1 s0 3) (G.2.1 s0 4) (G.2.1 w 2)) (G.2.1 s0 3)))))) (va_runV (As := [.int (nI (G.2.1 w 2))]) (rest := []) ⟨hx, hb, hml, hown, hts⟩ (p_Side_width2 l dC dI cB cI cL cZ cC cO (G := gN G w 5 ((G.2.1 w 5) ||| (m_set (m_bits (G.2.2.1 s0 2) (G.2.1 s0 3) (G.2.1 s0 4) (G.2.1 w 2)) (G.2.1 s0 3)))) s0 (G.2.1 w 2) t0 _ hL hs ho (by show up2 _ _ _ _ _ _ < _; rw [up2_k _ _ _ _ (by decide)]; exact hlo) (by show up2 _ _ _ _ _ _ < _; rw [up2_k _ _ _ _ (by decide)]; exact hhi) (by show _ → up2 _ _ _ _ _ _ ≤ up2 _ _ _ _ _ _; rw [up2_k _ _ _ _ (by decide), up2_k _ _ _ _ (by decide)]; exact rir_le c_22)) (cwV 1 hts (good_V k_714 k_715 k_716 k_21 k_717) rfl rfl rfl (by decide +kernel) ⟨Nat.le_of_ble_eq_true rfl, Nat.le_of_ble_eq_true rfl⟩) (wd_preV (ci := 11) (r := (R_Side, F_Side, 5)) hK hP hD hS hA hF hE [] (by decide) rfl rfl (pq_at (gL_m hL hs (by decide)) (gE_3 (G := (gN G w 5 ((G.2.1 w 5) ||| (m_set (m_bits (G.2.2.1 s0 2) (G.2.1 s0 3) (G.2.1 s0 4) (G.2.1 w 2)) (G.2.1 s0 3))))) hs))) rfl rfl hl.1 rfl (lv_room (Nat.le_of_ble_eq_true rfl)) d_Checker_checkTarget_131 ⟨Nat.le_of_ble_eq_true rfl, Nat.le_of_ble_eq_true rfl⟩) hP hD hS hA [] [0, 1] rfl rfl (by decide) (by decide) (fun r_27 _ H locs w_26 hP hD hS => ?_)
            have hP : va_P (dC, dI) cl ([(qx, .inr (5, [.ref qc, .ref qf, .ref na, .ref df, .ref qi])), (qf, .inr (2, [v0, v1]))] ++ va_pl L (gE cO (gN G w 5 ((G.2.1 w 5) ||| (m_set (m_bits (G.2.2.1 s0 2) (G.2.1 s0 3) (G.2.1 s0 4) (G.2.1 w 2)) (G.2.1 s0 3)))))) H := hP
            have hD : va_D A ([(qx, .inr (5, [.ref qc, .ref qf, .ref na, .ref df, .ref qi])), (qf, .inr (2, [v0, v1]))] ++ va_pl L (gE cO (gN G w 5 ((G.2.1 w 5) ||| (m_set (m_bits (G.2.2.1 s0 2) (G.2.1 s0 3) (G.2.1 s0 4) (G.2.1 w 2)) (G.2.1 s0 3)))))) := hD
            have hwz : r_27 = nI (m_bits (G.2.2.1 s0 2) (G.2.1 s0 3) (G.2.1 s0 4) (G.2.1 w 2)) := by rw [w_26]; show nI (m_bits _ (up2 _ _ _ _ _ _) (up2 _ _ _ _ _ _) _) = _; rw [up2_k _ _ _ _ (by decide), up2_k _ _ _ _ (by decide)]
            subst hwz
            refine lv_iload_n hx hb d_Checker_checkTarget_134 rfl (lv_at hl 4 rfl) ?_
            refine nv_icmp_eq (tgt := 156) hx hb (by omega) (by omega) d_Checker_checkTarget_135 (by decide) (fun c_28 => ?_) (fun c_28 => ?_)
            · refine lv_iconst (v := nI 1) hx hb d_Checker_checkTarget_156 (by decide) ?_
              refine lv_goto (tgt := 161) hx hb d_Checker_checkTarget_157 (by decide) ?_
              have hX : (ckt G (some w) s0 n (G.2.2.1 nm 2)) = (none, gN G w 5 ((G.2.1 w 5) ||| (m_set (m_bits (G.2.2.1 s0 2) (G.2.1 s0 3) (G.2.1 s0 4) (G.2.1 w 2)) (G.2.1 s0 3)))) := by unfold ckt; show (if _ then _ else _) = _; rw [if_neg c_1, if_neg (fun q9 => q9.2 c_19), if_pos c_22, if_pos c_25, if_pos c_28]
              exact wr_z (x := true) hx hb hr hlocks ((v0, v1), gN G w 5 ((G.2.1 w 5) ||| (m_set (m_bits (G.2.2.1 s0 2) (G.2.1 s0 3) (G.2.1 s0 4) (G.2.1 w 2)) (G.2.1 s0 3)))) ⟨by rw [hX]; rfl, by rw [hX]; rfl, by rw [hX]⟩ hK hP hD hS d_Checker_checkTarget_161
            · refine lv_aload_n hx hb d_Checker_checkTarget_138 rfl (lv_at hl 1 rfl) ?_
              refine va_get (D := (dC, dI)) (ci := 5) (v := .ref qf) (C := R_Checker) (T := F_Checker) (N := 5) hx hb hts i_Checker hown hK hP 0 rfl rfl 1 (by decide) (hts _ k_352) (fun _ h9 => h9) rfl d_Checker_checkTarget_139 ?_
              refine lv_iconst (v := nI 5) hx hb d_Checker_checkTarget_142 (by decide) ?_
              refine lv_aload_n hx hb d_Checker_checkTarget_143 rfl (lv_at hl 3 rfl) ?_
              refine pq_get (D := (dC, dI)) (ci := 11) (v := .ref nm) (C := R_Side) (T := F_Side) (N := 5) hx hb hts i_Side hown hK hP (gL_m hL hs (by decide)) (gE_3 (G := (gN G w 5 ((G.2.1 w 5) ||| (m_set (m_bits (G.2.2.1 s0 2) (G.2.1 s0 3) (G.2.1 s0 4) (G.2.1 w 2)) (G.2.1 s0 3))))) hs) rfl 0 (by decide) (hts _ k_614) (fun _ h9 => h9) (congrArg (fun z9 => some (va_rf z9)) hsn) d_Checker_checkTarget_144 ?_
              refine pq_get (D := (dC, dI)) (ci := 7) (v := .int (oI ((gN G w 5 ((G.2.1 w 5) ||| (m_set (m_bits (G.2.2.1 s0 2) (G.2.1 s0 3) (G.2.1 s0 4) (G.2.1 w 2)) (G.2.1 s0 3)))).2.2.1 nm 2))) (C := R_Name) (T := F_Name) (N := 3) hx hb hts i_Name hown hK hP (gL_m hL hnm (by decide)) (gE_1 (G := (gN G w 5 ((G.2.1 w 5) ||| (m_set (m_bits (G.2.2.1 s0 2) (G.2.1 s0 3) (G.2.1 s0 4) (G.2.1 w 2)) (G.2.1 s0 3))))) hnm) rfl 2 (by decide) (hts _ k_150) (fun _ h9 => h9) rfl d_Checker_checkTarget_147 ?_
              refine we_i (cx := [(qf, .inr (2, [v0, v1]))]) (wr := [(qx, .inr (5, [.ref qc, .ref qf, .ref na, .ref df, .ref qi]))]) (pl := va_pl L (gE cO (gN G w 5 ((G.2.1 w 5) ||| (m_set (m_bits (G.2.2.1 s0 2) (G.2.1 s0 3) (G.2.1 s0 4) (G.2.1 w 2)) (G.2.1 s0 3)))))) (va_runV (As := [.int (nI 5), .int (oI ((gN G w 5 ((G.2.1 w 5) ||| (m_set (m_bits (G.2.2.1 s0 2) (G.2.1 s0 3) (G.2.1 s0 4) (G.2.1 w 2)) (G.2.1 s0 3)))).2.2.1 nm 2))]) (rest := []) ⟨hx, hb, hml, hown, hts⟩ (c_Fault_note l dC dI cB cI cL cZ cC cO qf (nI 5) (oI ((gN G w 5 ((G.2.1 w 5) ||| (m_set (m_bits (G.2.2.1 s0 2) (G.2.1 s0 3) (G.2.1 s0 4) (G.2.1 w 2)) (G.2.1 s0 3)))).2.2.1 nm 2)) _ ) (cwV 2 hts (good_V k_695 k_534 k_535 k_3 k_536) rfl rfl rfl (by decide +kernel) ⟨Nat.le_of_ble_eq_true rfl, Nat.le_of_ble_eq_true rfl⟩) (wc_preV (k0 := 1) (ci := 2) (r := (R_Fault, F_Fault, 2)) hK hP hD hS hA hF [1] (by decide) rfl rfl rfl) rfl rfl hl.1 rfl (lv_room (Nat.le_of_ble_eq_true rfl)) d_Checker_checkTarget_150 ⟨Nat.le_of_ble_eq_true rfl, Nat.le_of_ble_eq_true rfl⟩) hP hD hS hA [1] [0] rfl rfl (by decide) (by decide) (fun r_30 _ H locs w_29 hP hD hS => ?_)
              have hP : va_P (dC, dI) cl ([(qx, .inr (5, [.ref qc, .ref qf, .ref na, .ref df, .ref qi])), (qf, .inr (2, [.int (nI 5), .int (oI ((gN G w 5 ((G.2.1 w 5) ||| (m_set (m_bits (G.2.2.1 s0 2) (G.2.1 s0 3) (G.2.1 s0 4) (G.2.1 w 2)) (G.2.1 s0 3)))).2.2.1 nm 2))]))] ++ va_pl L (gE cO (gN G w 5 ((G.2.1 w 5) ||| (m_set (m_bits (G.2.2.1 s0 2) (G.2.1 s0 3) (G.2.1 s0 4) (G.2.1 w 2)) (G.2.1 s0 3)))))) H := hP
              have hD : va_D A ([(qx, .inr (5, [.ref qc, .ref qf, .ref na, .ref df, .ref qi])), (qf, .inr (2, [.int (nI 5), .int (oI ((gN G w 5 ((G.2.1 w 5) ||| (m_set (m_bits (G.2.2.1 s0 2) (G.2.1 s0 3) (G.2.1 s0 4) (G.2.1 w 2)) (G.2.1 s0 3)))).2.2.1 nm 2))]))] ++ va_pl L (gE cO (gN G w 5 ((G.2.1 w 5) ||| (m_set (m_bits (G.2.2.1 s0 2) (G.2.1 s0 3) (G.2.1 s0 4) (G.2.1 w 2)) (G.2.1 s0 3)))))) := hD
              subst w_29
              refine nv_bif_eq (tgt := 160) hx hb d_Checker_checkTarget_153 (by decide) (fun c_31 => ?_) (fun c_31 => ?_)
              · refine lv_iconst (v := nI 0) hx hb d_Checker_checkTarget_160 (by decide) ?_
                have hX : (ckt G (some w) s0 n (G.2.2.1 nm 2)) = (some (5, (gN G w 5 ((G.2.1 w 5) ||| (m_set (m_bits (G.2.2.1 s0 2) (G.2.1 s0 3) (G.2.1 s0 4) (G.2.1 w 2)) (G.2.1 s0 3)))).2.2.1 nm 2), gN G w 5 ((G.2.1 w 5) ||| (m_set (m_bits (G.2.2.1 s0 2) (G.2.1 s0 3) (G.2.1 s0 4) (G.2.1 w 2)) (G.2.1 s0 3)))) := by unfold ckt; show (if _ then _ else _) = _; rw [if_neg c_1, if_neg (fun q9 => q9.2 c_19), if_pos c_22, if_pos c_25, if_neg c_28]
                exact wr_z (x := false) hx hb hr hlocks ((.int (nI 5), .int (oI ((gN G w 5 ((G.2.1 w 5) ||| (m_set (m_bits (G.2.2.1 s0 2) (G.2.1 s0 3) (G.2.1 s0 4) (G.2.1 w 2)) (G.2.1 s0 3)))).2.2.1 nm 2))), gN G w 5 ((G.2.1 w 5) ||| (m_set (m_bits (G.2.2.1 s0 2) (G.2.1 s0 3) (G.2.1 s0 4) (G.2.1 w 2)) (G.2.1 s0 3)))) ⟨by rw [hX]; rfl, by rw [hX]; rfl, by rw [hX]⟩ hK hP hD hS d_Checker_checkTarget_161
              · exact absurd c_31 (by decide)
          · refine lv_aload_n hx hb d_Checker_checkTarget_99 rfl (lv_at hl 1 rfl) ?_
            refine va_get (D := (dC, dI)) (ci := 5) (v := .ref qf) (C := R_Checker) (T := F_Checker) (N := 5) hx hb hts i_Checker hown hK hP 0 rfl rfl 1 (by decide) (hts _ k_352) (fun _ h9 => h9) rfl d_Checker_checkTarget_100 ?_
            refine lv_iconst (v := nI 3) hx hb d_Checker_checkTarget_103 (by decide) ?_
            refine lv_aload_n hx hb d_Checker_checkTarget_104 rfl (lv_at hl 3 rfl) ?_
            refine pq_get (D := (dC, dI)) (ci := 11) (v := .ref nm) (C := R_Side) (T := F_Side) (N := 5) hx hb hts i_Side hown hK hP (gL_m hL hs (by decide)) (gE_3 (G := G) hs) rfl 0 (by decide) (hts _ k_614) (fun _ h9 => h9) (congrArg (fun z9 => some (va_rf z9)) hsn) d_Checker_checkTarget_105 ?_
            refine pq_get (D := (dC, dI)) (ci := 7) (v := .int (oI (G.2.2.1 nm 2))) (C := R_Name) (T := F_Name) (N := 3) hx hb hts i_Name hown hK hP (gL_m hL hnm (by decide)) (gE_1 (G := G) hnm) rfl 2 (by decide) (hts _ k_150) (fun _ h9 => h9) rfl d_Checker_checkTarget_108 ?_
            refine we_i (cx := [(qf, .inr (2, [v0, v1]))]) (wr := [(qx, .inr (5, [.ref qc, .ref qf, .ref na, .ref df, .ref qi]))]) (pl := va_pl L (gE cO G)) (va_runV (As := [.int (nI 3), .int (oI (G.2.2.1 nm 2))]) (rest := []) ⟨hx, hb, hml, hown, hts⟩ (c_Fault_note l dC dI cB cI cL cZ cC cO qf (nI 3) (oI (G.2.2.1 nm 2)) _ ) (cwV 2 hts (good_V k_695 k_534 k_535 k_3 k_536) rfl rfl rfl (by decide +kernel) ⟨Nat.le_of_ble_eq_true rfl, Nat.le_of_ble_eq_true rfl⟩) (wc_preV (k0 := 1) (ci := 2) (r := (R_Fault, F_Fault, 2)) hK hP hD hS hA hF [1] (by decide) rfl rfl rfl) rfl rfl hl.1 rfl (lv_room (Nat.le_of_ble_eq_true rfl)) d_Checker_checkTarget_111 ⟨Nat.le_of_ble_eq_true rfl, Nat.le_of_ble_eq_true rfl⟩) hP hD hS hA [1] [0] rfl rfl (by decide) (by decide) (fun r_33 _ H locs w_32 hP hD hS => ?_)
            have hP : va_P (dC, dI) cl ([(qx, .inr (5, [.ref qc, .ref qf, .ref na, .ref df, .ref qi])), (qf, .inr (2, [.int (nI 3), .int (oI (G.2.2.1 nm 2))]))] ++ va_pl L (gE cO G)) H := hP
            have hD : va_D A ([(qx, .inr (5, [.ref qc, .ref qf, .ref na, .ref df, .ref qi])), (qf, .inr (2, [.int (nI 3), .int (oI (G.2.2.1 nm 2))]))] ++ va_pl L (gE cO G)) := hD
            subst w_32
            have hX : (ckt G (some w) s0 n (G.2.2.1 nm 2)) = (some (3, G.2.2.1 nm 2), G) := by unfold ckt; show (if _ then _ else _) = _; rw [if_neg c_1, if_neg (fun q9 => q9.2 c_19), if_pos c_22, if_neg c_25]
            exact wr_z (x := false) hx hb hr hlocks ((.int (nI 3), .int (oI (G.2.2.1 nm 2))), G) ⟨by rw [hX]; rfl, by rw [hX]; rfl, by rw [hX]⟩ hK hP hD hS d_Checker_checkTarget_114
        · refine lv_aload_n hx hb d_Checker_checkTarget_66 rfl (lv_at hl 0 rfl) ?_
          refine va_get (D := (dC, dI)) (ci := 5) (v := .ref qf) (C := R_Checker) (T := F_Checker) (N := 5) hx hb hts i_Checker hown hK hP 0 rfl rfl 1 (by decide) (hts _ k_352) (fun _ h9 => h9) rfl d_Checker_checkTarget_67 ?_
          refine lv_iconst (v := nI 5) hx hb d_Checker_checkTarget_70 (by decide) ?_
          refine lv_aload_n hx hb d_Checker_checkTarget_71 rfl (lv_at hl 2 rfl) ?_
          refine pq_get (D := (dC, dI)) (ci := 11) (v := .int (oI (G.2.2.1 s0 2))) (C := R_Side) (T := F_Side) (N := 5) hx hb hts i_Side hown hK hP (gL_m hL hs (by decide)) (gE_3 (G := G) hs) rfl 2 (by decide) (hts _ k_620) (fun _ h9 => h9) rfl d_Checker_checkTarget_72 ?_
          refine we_i (cx := [(qf, .inr (2, [v0, v1]))]) (wr := [(qx, .inr (5, [.ref qc, .ref qf, .ref na, .ref df, .ref qi]))]) (pl := va_pl L (gE cO G)) (va_runV (As := [.int (nI 5), .int (oI (G.2.2.1 s0 2))]) (rest := []) ⟨hx, hb, hml, hown, hts⟩ (c_Fault_note l dC dI cB cI cL cZ cC cO qf (nI 5) (oI (G.2.2.1 s0 2)) _ ) (cwV 2 hts (good_V k_695 k_534 k_535 k_3 k_536) rfl rfl rfl (by decide +kernel) ⟨Nat.le_of_ble_eq_true rfl, Nat.le_of_ble_eq_true rfl⟩) (wc_preV (k0 := 1) (ci := 2) (r := (R_Fault, F_Fault, 2)) hK hP hD hS hA hF [1] (by decide) rfl rfl rfl) rfl rfl hl.1 rfl (lv_room (Nat.le_of_ble_eq_true rfl)) d_Checker_checkTarget_75 ⟨Nat.le_of_ble_eq_true rfl, Nat.le_of_ble_eq_true rfl⟩) hP hD hS hA [1] [0] rfl rfl (by decide) (by decide) (fun r_35 _ H locs w_34 hP hD hS => ?_)
          have hP : va_P (dC, dI) cl ([(qx, .inr (5, [.ref qc, .ref qf, .ref na, .ref df, .ref qi])), (qf, .inr (2, [.int (nI 5), .int (oI (G.2.2.1 s0 2))]))] ++ va_pl L (gE cO G)) H := hP
          have hD : va_D A ([(qx, .inr (5, [.ref qc, .ref qf, .ref na, .ref df, .ref qi])), (qf, .inr (2, [.int (nI 5), .int (oI (G.2.2.1 s0 2))]))] ++ va_pl L (gE cO G)) := hD
          subst w_34
          have hX : (ckt G (some w) s0 n (G.2.2.1 nm 2)) = (some (5, G.2.2.1 s0 2), G) := by unfold ckt; show (if _ then _ else _) = _; rw [if_neg c_1, if_neg (fun q9 => q9.2 c_19), if_neg (by rw [c_22]; decide)]
          exact wr_z (x := false) hx hb hr hlocks ((.int (nI 5), .int (oI (G.2.2.1 s0 2))), G) ⟨by rw [hX]; rfl, by rw [hX]; rfl, by rw [hX]⟩ hK hP hD hS d_Checker_checkTarget_78
      · refine lv_aload_n hx hb d_Checker_checkTarget_42 rfl (lv_at hl 0 rfl) ?_
        refine va_get (D := (dC, dI)) (ci := 5) (v := .ref qf) (C := R_Checker) (T := F_Checker) (N := 5) hx hb hts i_Checker hown hK hP 0 rfl rfl 1 (by decide) (hts _ k_352) (fun _ h9 => h9) rfl d_Checker_checkTarget_43 ?_
        refine lv_iconst (v := nI 3) hx hb d_Checker_checkTarget_46 (by decide) ?_
        refine lv_aload_n hx hb d_Checker_checkTarget_47 rfl (lv_at hl 2 rfl) ?_
        refine pq_get (D := (dC, dI)) (ci := 11) (v := .ref nm) (C := R_Side) (T := F_Side) (N := 5) hx hb hts i_Side hown hK hP (gL_m hL hs (by decide)) (gE_3 (G := G) hs) rfl 0 (by decide) (hts _ k_614) (fun _ h9 => h9) (congrArg (fun z9 => some (va_rf z9)) hsn) d_Checker_checkTarget_48 ?_
        refine pq_get (D := (dC, dI)) (ci := 7) (v := .int (oI (G.2.2.1 nm 2))) (C := R_Name) (T := F_Name) (N := 3) hx hb hts i_Name hown hK hP (gL_m hL hnm (by decide)) (gE_1 (G := G) hnm) rfl 2 (by decide) (hts _ k_150) (fun _ h9 => h9) rfl d_Checker_checkTarget_51 ?_
        refine we_i (cx := [(qf, .inr (2, [v0, v1]))]) (wr := [(qx, .inr (5, [.ref qc, .ref qf, .ref na, .ref df, .ref qi]))]) (pl := va_pl L (gE cO G)) (va_runV (As := [.int (nI 3), .int (oI (G.2.2.1 nm 2))]) (rest := []) ⟨hx, hb, hml, hown, hts⟩ (c_Fault_note l dC dI cB cI cL cZ cC cO qf (nI 3) (oI (G.2.2.1 nm 2)) _ ) (cwV 2 hts (good_V k_695 k_534 k_535 k_3 k_536) rfl rfl rfl (by decide +kernel) ⟨Nat.le_of_ble_eq_true rfl, Nat.le_of_ble_eq_true rfl⟩) (wc_preV (k0 := 1) (ci := 2) (r := (R_Fault, F_Fault, 2)) hK hP hD hS hA hF [1] (by decide) rfl rfl rfl) rfl rfl hl.1 rfl (lv_room (Nat.le_of_ble_eq_true rfl)) d_Checker_checkTarget_54 ⟨Nat.le_of_ble_eq_true rfl, Nat.le_of_ble_eq_true rfl⟩) hP hD hS hA [1] [0] rfl rfl (by decide) (by decide) (fun r_37 _ H locs w_36 hP hD hS => ?_)
        have hP : va_P (dC, dI) cl ([(qx, .inr (5, [.ref qc, .ref qf, .ref na, .ref df, .ref qi])), (qf, .inr (2, [.int (nI 3), .int (oI (G.2.2.1 nm 2))]))] ++ va_pl L (gE cO G)) H := hP
        have hD : va_D A ([(qx, .inr (5, [.ref qc, .ref qf, .ref na, .ref df, .ref qi])), (qf, .inr (2, [.int (nI 3), .int (oI (G.2.2.1 nm 2))]))] ++ va_pl L (gE cO G)) := hD
        subst w_36
        have hX : (ckt G (some w) s0 n (G.2.2.1 nm 2)) = (some (3, G.2.2.1 nm 2), G) := by unfold ckt; show (if _ then _ else _) = _; rw [if_neg c_1, if_pos ⟨c_2, c_19⟩]
        exact wr_z (x := false) hx hb hr hlocks ((.int (nI 3), .int (oI (G.2.2.1 nm 2))), G) ⟨by rw [hX]; rfl, by rw [hX]; rfl, by rw [hX]⟩ hK hP hD hS d_Checker_checkTarget_57
  · refine lv_aload_n hx hb d_Checker_checkTarget_11 rfl (lv_at hl 0 rfl) ?_
    refine va_get (D := (dC, dI)) (ci := 5) (v := .ref qf) (C := R_Checker) (T := F_Checker) (N := 5) hx hb hts i_Checker hown hK hP 0 rfl rfl 1 (by decide) (hts _ k_352) (fun _ h9 => h9) rfl d_Checker_checkTarget_12 ?_
    refine lv_iconst (v := nI 4) hx hb d_Checker_checkTarget_15 (by decide) ?_
    refine lv_aload_n hx hb d_Checker_checkTarget_16 rfl (lv_at hl 2 rfl) ?_
    refine pq_get (D := (dC, dI)) (ci := 11) (v := .ref nm) (C := R_Side) (T := F_Side) (N := 5) hx hb hts i_Side hown hK hP (gL_m hL hs (by decide)) (gE_3 (G := G) hs) rfl 0 (by decide) (hts _ k_614) (fun _ h9 => h9) (congrArg (fun z9 => some (va_rf z9)) hsn) d_Checker_checkTarget_17 ?_
    refine pq_get (D := (dC, dI)) (ci := 7) (v := .int (oI (G.2.2.1 nm 2))) (C := R_Name) (T := F_Name) (N := 3) hx hb hts i_Name hown hK hP (gL_m hL hnm (by decide)) (gE_1 (G := G) hnm) rfl 2 (by decide) (hts _ k_150) (fun _ h9 => h9) rfl d_Checker_checkTarget_20 ?_
    refine we_i (cx := [(qf, .inr (2, [v0, v1]))]) (wr := [(qx, .inr (5, [.ref qc, .ref qf, .ref na, .ref df, .ref qi]))]) (pl := va_pl L (gE cO G)) (va_runV (As := [.int (nI 4), .int (oI (G.2.2.1 nm 2))]) (rest := []) ⟨hx, hb, hml, hown, hts⟩ (c_Fault_note l dC dI cB cI cL cZ cC cO qf (nI 4) (oI (G.2.2.1 nm 2)) _ ) (cwV 2 hts (good_V k_695 k_534 k_535 k_3 k_536) rfl rfl rfl (by decide +kernel) ⟨Nat.le_of_ble_eq_true rfl, Nat.le_of_ble_eq_true rfl⟩) (wc_preV (k0 := 1) (ci := 2) (r := (R_Fault, F_Fault, 2)) hK hP hD hS hA hF [1] (by decide) rfl rfl rfl) rfl rfl hl.1 rfl (lv_room (Nat.le_of_ble_eq_true rfl)) d_Checker_checkTarget_23 ⟨Nat.le_of_ble_eq_true rfl, Nat.le_of_ble_eq_true rfl⟩) hP hD hS hA [1] [0] rfl rfl (by decide) (by decide) (fun r_39 _ H locs w_38 hP hD hS => ?_)
    have hP : va_P (dC, dI) cl ([(qx, .inr (5, [.ref qc, .ref qf, .ref na, .ref df, .ref qi])), (qf, .inr (2, [.int (nI 4), .int (oI (G.2.2.1 nm 2))]))] ++ va_pl L (gE cO G)) H := hP
    have hD : va_D A ([(qx, .inr (5, [.ref qc, .ref qf, .ref na, .ref df, .ref qi])), (qf, .inr (2, [.int (nI 4), .int (oI (G.2.2.1 nm 2))]))] ++ va_pl L (gE cO G)) := hD
    subst w_38
    have hX : (ckt G (some w) s0 n (G.2.2.1 nm 2)) = (some (4, G.2.2.1 nm 2), G) := by unfold ckt; show (if _ then _ else _) = _; rw [if_pos c_1]
    exact wr_z (x := false) hx hb hr hlocks ((.int (nI 4), .int (oI (G.2.2.1 nm 2))), G) ⟨by rw [hX]; rfl, by rw [hX]; rfl, by rw [hX]⟩ hK hP hD hS d_Checker_checkTarget_26
