theorem d_Checker_checkLink_0 : decode b_Checker_checkLink 0 = .ok (.aload_n 1, 1) := by decide +kernel
theorem d_Checker_checkLink_1 : decode b_Checker_checkLink 1 = .ok (.getfield 117, 3) := by decide +kernel
theorem d_Checker_checkLink_4 : decode b_Checker_checkLink 4 = .ok (.astore_n 2, 1) := by decide +kernel
theorem d_Checker_checkLink_5 : decode b_Checker_checkLink 5 = .ok (.aload_n 1, 1) := by decide +kernel
theorem d_Checker_checkLink_6 : decode b_Checker_checkLink 6 = .ok (.getfield 106, 3) := by decide +kernel
theorem d_Checker_checkLink_9 : decode b_Checker_checkLink 9 = .ok (.astore_n 3, 1) := by decide +kernel
theorem d_Checker_checkLink_10 : decode b_Checker_checkLink 10 = .ok (.aload_n 2, 1) := by decide +kernel
theorem d_Checker_checkLink_11 : decode b_Checker_checkLink 11 = .ok (.ifnonnull 19, 3) := by decide +kernel
theorem d_Checker_checkLink_14 : decode b_Checker_checkLink 14 = .ok (.aload_n 0, 1) := by decide +kernel
theorem d_Checker_checkLink_15 : decode b_Checker_checkLink 15 = .ok (.getfield 33, 3) := by decide +kernel
theorem d_Checker_checkLink_18 : decode b_Checker_checkLink 18 = .ok (.iconst 4, 1) := by decide +kernel
theorem d_Checker_checkLink_19 : decode b_Checker_checkLink 19 = .ok (.aload_n 3, 1) := by decide +kernel
theorem d_Checker_checkLink_20 : decode b_Checker_checkLink 20 = .ok (.getfield 110, 3) := by decide +kernel
theorem d_Checker_checkLink_23 : decode b_Checker_checkLink 23 = .ok (.getfield 57, 3) := by decide +kernel
theorem d_Checker_checkLink_26 : decode b_Checker_checkLink 26 = .ok (.invokevirtual 63, 3) := by decide +kernel
theorem d_Checker_checkLink_29 : decode b_Checker_checkLink 29 = .ok (.ireturn, 1) := by decide +kernel
theorem d_Checker_checkLink_30 : decode b_Checker_checkLink 30 = .ok (.aload_n 3, 1) := by decide +kernel
theorem d_Checker_checkLink_31 : decode b_Checker_checkLink 31 = .ok (.aload_n 2, 1) := by decide +kernel
theorem d_Checker_checkLink_32 : decode b_Checker_checkLink 32 = .ok (.getfield 137, 3) := by decide +kernel
theorem d_Checker_checkLink_35 : decode b_Checker_checkLink 35 = .ok (.invokevirtual 140, 3) := by decide +kernel
theorem d_Checker_checkLink_38 : decode b_Checker_checkLink 38 = .ok (.ifCond .ne 16, 3) := by decide +kernel
theorem d_Checker_checkLink_41 : decode b_Checker_checkLink 41 = .ok (.aload_n 0, 1) := by decide +kernel
theorem d_Checker_checkLink_42 : decode b_Checker_checkLink 42 = .ok (.getfield 33, 3) := by decide +kernel
theorem d_Checker_checkLink_45 : decode b_Checker_checkLink 45 = .ok (.iconst 5, 1) := by decide +kernel
theorem d_Checker_checkLink_46 : decode b_Checker_checkLink 46 = .ok (.aload_n 3, 1) := by decide +kernel
theorem d_Checker_checkLink_47 : decode b_Checker_checkLink 47 = .ok (.getfield 158, 3) := by decide +kernel
theorem d_Checker_checkLink_50 : decode b_Checker_checkLink 50 = .ok (.invokevirtual 63, 3) := by decide +kernel
theorem d_Checker_checkLink_53 : decode b_Checker_checkLink 53 = .ok (.ireturn, 1) := by decide +kernel
theorem d_Checker_checkLink_54 : decode b_Checker_checkLink 54 = .ok (.aload_n 2, 1) := by decide +kernel
theorem d_Checker_checkLink_55 : decode b_Checker_checkLink 55 = .ok (.getfield 128, 3) := by decide +kernel
theorem d_Checker_checkLink_58 : decode b_Checker_checkLink 58 = .ok (.iconst 1, 1) := by decide +kernel
theorem d_Checker_checkLink_59 : decode b_Checker_checkLink 59 = .ok (.if_icmp .ne 24, 3) := by decide +kernel
theorem d_Checker_checkLink_62 : decode b_Checker_checkLink 62 = .ok (.aload_n 0, 1) := by decide +kernel
theorem d_Checker_checkLink_63 : decode b_Checker_checkLink 63 = .ok (.aload_n 1, 1) := by decide +kernel
theorem d_Checker_checkLink_64 : decode b_Checker_checkLink 64 = .ok (.getfield 125, 3) := by decide +kernel
theorem d_Checker_checkLink_67 : decode b_Checker_checkLink 67 = .ok (.aload_n 1, 1) := by decide +kernel
theorem d_Checker_checkLink_68 : decode b_Checker_checkLink 68 = .ok (.getfield 161, 3) := by decide +kernel
theorem d_Checker_checkLink_71 : decode b_Checker_checkLink 71 = .ok (.aload_n 3, 1) := by decide +kernel
theorem d_Checker_checkLink_72 : decode b_Checker_checkLink 72 = .ok (.aload_n 2, 1) := by decide +kernel
theorem d_Checker_checkLink_73 : decode b_Checker_checkLink 73 = .ok (.getfield 137, 3) := by decide +kernel
theorem d_Checker_checkLink_76 : decode b_Checker_checkLink 76 = .ok (.invokevirtual 144, 3) := by decide +kernel
theorem d_Checker_checkLink_79 : decode b_Checker_checkLink 79 = .ok (.invokevirtual 164, 3) := by decide +kernel
theorem d_Checker_checkLink_82 : decode b_Checker_checkLink 82 = .ok (.ireturn, 1) := by decide +kernel
theorem d_Checker_checkLink_83 : decode b_Checker_checkLink 83 = .ok (.aload_n 3, 1) := by decide +kernel
theorem d_Checker_checkLink_84 : decode b_Checker_checkLink 84 = .ok (.aload_n 2, 1) := by decide +kernel
theorem d_Checker_checkLink_85 : decode b_Checker_checkLink 85 = .ok (.getfield 137, 3) := by decide +kernel
theorem d_Checker_checkLink_88 : decode b_Checker_checkLink 88 = .ok (.invokevirtual 168, 3) := by decide +kernel
theorem d_Checker_checkLink_91 : decode b_Checker_checkLink 91 = .ok (.istore 4, 2) := by decide +kernel
theorem d_Checker_checkLink_93 : decode b_Checker_checkLink 93 = .ok (.aload_n 2, 1) := by decide +kernel
theorem d_Checker_checkLink_94 : decode b_Checker_checkLink 94 = .ok (.getfield 171, 3) := by decide +kernel
theorem d_Checker_checkLink_97 : decode b_Checker_checkLink 97 = .ok (.iload 4, 2) := by decide +kernel
theorem d_Checker_checkLink_99 : decode b_Checker_checkLink 99 = .ok (.iand, 1) := by decide +kernel
theorem d_Checker_checkLink_100 : decode b_Checker_checkLink 100 = .ok (.ifCond .eq 19, 3) := by decide +kernel
theorem d_Checker_checkLink_103 : decode b_Checker_checkLink 103 = .ok (.aload_n 0, 1) := by decide +kernel
theorem d_Checker_checkLink_104 : decode b_Checker_checkLink 104 = .ok (.getfield 33, 3) := by decide +kernel
theorem d_Checker_checkLink_107 : decode b_Checker_checkLink 107 = .ok (.iconst 3, 1) := by decide +kernel
theorem d_Checker_checkLink_108 : decode b_Checker_checkLink 108 = .ok (.aload_n 3, 1) := by decide +kernel
theorem d_Checker_checkLink_109 : decode b_Checker_checkLink 109 = .ok (.getfield 110, 3) := by decide +kernel
theorem d_Checker_checkLink_112 : decode b_Checker_checkLink 112 = .ok (.getfield 57, 3) := by decide +kernel
theorem d_Checker_checkLink_115 : decode b_Checker_checkLink 115 = .ok (.invokevirtual 63, 3) := by decide +kernel
theorem d_Checker_checkLink_118 : decode b_Checker_checkLink 118 = .ok (.ireturn, 1) := by decide +kernel
theorem d_Checker_checkLink_119 : decode b_Checker_checkLink 119 = .ok (.aload_n 2, 1) := by decide +kernel
theorem d_Checker_checkLink_120 : decode b_Checker_checkLink 120 = .ok (.dup, 1) := by decide +kernel
theorem d_Checker_checkLink_121 : decode b_Checker_checkLink 121 = .ok (.getfield 171, 3) := by decide +kernel
theorem d_Checker_checkLink_124 : decode b_Checker_checkLink 124 = .ok (.iload 4, 2) := by decide +kernel
theorem d_Checker_checkLink_126 : decode b_Checker_checkLink 126 = .ok (.ior, 1) := by decide +kernel
theorem d_Checker_checkLink_127 : decode b_Checker_checkLink 127 = .ok (.putfield 171, 3) := by decide +kernel
theorem d_Checker_checkLink_130 : decode b_Checker_checkLink 130 = .ok (.aload_n 0, 1) := by decide +kernel
theorem d_Checker_checkLink_131 : decode b_Checker_checkLink 131 = .ok (.aload_n 1, 1) := by decide +kernel
theorem d_Checker_checkLink_132 : decode b_Checker_checkLink 132 = .ok (.getfield 125, 3) := by decide +kernel
theorem d_Checker_checkLink_135 : decode b_Checker_checkLink 135 = .ok (.aload_n 1, 1) := by decide +kernel
theorem d_Checker_checkLink_136 : decode b_Checker_checkLink 136 = .ok (.getfield 161, 3) := by decide +kernel
theorem d_Checker_checkLink_139 : decode b_Checker_checkLink 139 = .ok (.aload_n 3, 1) := by decide +kernel
theorem d_Checker_checkLink_140 : decode b_Checker_checkLink 140 = .ok (.aload_n 2, 1) := by decide +kernel
theorem d_Checker_checkLink_141 : decode b_Checker_checkLink 141 = .ok (.getfield 137, 3) := by decide +kernel
theorem d_Checker_checkLink_144 : decode b_Checker_checkLink 144 = .ok (.invokevirtual 144, 3) := by decide +kernel
theorem d_Checker_checkLink_147 : decode b_Checker_checkLink 147 = .ok (.invokevirtual 174, 3) := by decide +kernel
theorem d_Checker_checkLink_150 : decode b_Checker_checkLink 150 = .ok (.ireturn, 1) := by decide +kernel
set_option maxHeartbeats 4000000 in
set_option maxRecDepth 100000 in
/-- checkLink(link) -/
theorem p_Checker_checkLinkNN (l : Launch) (dC : Nat → ClassId) (dI : Nat → Nat → Nat) (cB cI cL cZ cC cO : ClassId) (qx qc qf na df qi : Nat) (v0 v1 : Value) {L : List Nat} {G : PG}  (k0 s1 s0 nl nm : Nat) (t0 sz : Nat) (hL : gL L G) (hk : G.1 k0 = 4) (hl1 : G.2.2.2.2.2 k0 0 = some s1) (hr1 : G.2.2.2.2.2 k0 1 = some s0) (hwo : G.2.2.2.2.2 k0 3 = none) (hs1 : G.1 s1 = 3) (ho1 : ∀ z, G.2.2.1 s1 2 = some z → z < 2 ^ 31) (hlo1 : G.2.1 s1 3 < 100) (hhi1 : G.2.1 s1 4 < 100) (hn01 : G.2.2.1 s1 2 = none → G.2.1 s1 3 = 0 ∧ G.2.1 s1 4 = 0) (hsl : G.2.2.2.2.2 s1 0 = some nl) (hnl : G.1 nl = 1) (hs : G.1 s0 = 3) (ho : ∀ z, G.2.2.1 s0 2 = some z → z < 2 ^ 31) (hlo : G.2.1 s0 3 < 100) (hhi : G.2.1 s0 4 < 100) (hsn : G.2.2.2.2.2 s0 0 = some nm) (hnm : G.1 nm = 1) (hn0 : G.2.2.1 s0 2 = none → G.2.1 s0 3 = 0 ∧ G.2.1 s0 4 = 0) (hW : ∀ w, none = some w → G.1 w = 2 ∧ G.2.1 w 1 < 3 ∧ G.2.1 w 2 < 100 ∧ G.2.1 w 2 ≤ 16 ∧ G.2.1 w 5 < 65536) (hpl : ∀ z, (G.2.2.1 nm 2) = some z → z < 2 ^ 31) (hpo : G.2.2.2.2.2 k0 2 = none) : Met l y_Checker_checkLink w_Checker_checkLink ({ frames := 4, cells := 0, slots := 0, locals := 220 }) (va_Pc [.ref qx, .ref k0] (wB2 (dC, dI) cl [(cB, .byte), (cI, .int), (cL, .long), (cZ, .boolean), (cC, .char), (cO, .object "java/lang/Object")] sz t0 ([(qx, .inr (5, [.ref qc, .ref qf, .ref na, .ref df, .ref qi])), (qf, .inr (2, [v0, v1]))] ++ va_pl L (gE cO G)))) (va_Qi (fun (r : Int32) (u : (Value × Value) × PG) => r = bI (decide ((ckl G none none s1 s0 (G.2.2.1 nl 2) (G.2.2.1 nm 2)).1 = none)) ∧ u.1 = fpr (ckl G none none s1 s0 (G.2.2.1 nl 2) (G.2.2.1 nm 2)).1 v0 v1 ∧ u.2 = (ckl G none none s1 s0 (G.2.2.1 nl 2) (G.2.2.1 nm 2)).2) (fun u t => wA (dC, dI) cl [(cB, .byte), (cI, .int), (cL, .long), (cZ, .boolean), (cC, .char), (cO, .object "java/lang/Object")] (va_A ([(qx, .inr (5, [.ref qc, .ref qf, .ref na, .ref df, .ref qi])), (qf, .inr (2, [v0, v1]))] ++ va_pl L (gE cO G)) sz) ([(qx, .inr (5, [.ref qc, .ref qf, .ref na, .ref df, .ref qi])), (qf, .inr (2, [u.1.1, u.1.2]))] ++ va_pl L (gE cO u.2)) t) (va_A ([(qx, .inr (5, [.ref qc, .ref qf, .ref na, .ref df, .ref qi])), (qf, .inr (2, [v0, v1]))] ++ va_pl L (gE cO G)) sz)) 0 0 (va_A ([(qx, .inr (5, [.ref qc, .ref qf, .ref na, .ref df, .ref qi])), (qf, .inr (2, [v0, v1]))] ++ va_pl L (gE cO G)) sz) := by
  refine Met.ofW (cc := b_Checker_checkLink) (maxL := 5) (ret := (some ClassFile.FieldType.boolean)) (by decide) rfl ?_
  intro p e s m args below meth c s₁ B hml hv
  obtain ⟨rfl, ⟨hsz, hP, hK, hD0, hF⟩, hE⟩ := hv
  have hx := B.exec
  have hb := B.bytes
  have hr := B.returns
  have hts := atoms_spec (ws := w_Checker_checkLink) B.pre
  have hts : ∀ w ∈ tb, w.before _ s = true := fun w h => hts w (List.mem_cons_of_mem _ h)
  have hown : s.vm.findClass R_Checker = some m.cls := findClass_of_methodNamed B.named
  have hlocks := B.notSynchronized
  subst hsz
  have hD := hD0.self (sz := s.heap.size)
  generalize hAe : va_A ([(qx, .inr (5, [.ref qc, .ref qf, .ref na, .ref df, .ref qi])), (qf, .inr (2, [v0, v1]))] ++ va_pl L (gE cO G)) s.heap.size = A at hD hF hE ⊢
  have hA : ∀ q : Nat, s.heap.size ≤ q → A q := fun q h => by rw [← hAe]; exact Or.inr h
  have hS : va_S A s.heap s.heap [] := va_S.rf
  have hP : va_P (dC, dI) cl ([(qx, .inr (5, [.ref qc, .ref qf, .ref na, .ref df, .ref qi])), (qf, .inr (2, [v0, v1]))] ++ va_pl L (gE cO G)) s.heap := hP
  have hl := lv_entry ([.ref qx, .ref k0]) (n := 5) (Nat.le_of_ble_eq_true rfl)
  rw [lg_entry_eq]
  generalize (lg_sl ([.ref qx, .ref k0]) ++ List.replicate (5 - (lg_sl ([.ref qx, .ref k0])).length) Slot.unset).toArray = ls at hl ⊢
  have hl : lv_has ls 5 [(0, .ref qx), (1, .ref k0)] := hl
  refine lv_aload_n hx hb d_Checker_checkLink_0 rfl (lv_at hl 1 rfl) ?_
  refine pq_get (D := (dC, dI)) (ci := 12) (v := .null) (C := R_Link) (T := F_Link) (N := 4) hx hb hts i_Link hown hK hP (gL_m hL hk (by decide)) (gE_4 (G := G) hk) rfl 2 (by decide) (hts _ k_659) (fun _ h9 => h9) (congrArg (fun z9 => some (va_rf z9)) hpo) d_Checker_checkLink_1 ?_
  refine lv_astore_nN (lv' := [(2, .null), (0, .ref qx), (1, .ref k0)]) hx hb d_Checker_checkLink_4 rfl hl (by decide) rfl (fun ls hl => ?_)
  refine lv_aload_n hx hb d_Checker_checkLink_5 rfl (lv_at hl 2 rfl) ?_
  refine pq_get (D := (dC, dI)) (ci := 12) (v := .ref s1) (C := R_Link) (T := F_Link) (N := 4) hx hb hts i_Link hown hK hP (gL_m hL hk (by decide)) (gE_4 (G := G) hk) rfl 0 (by decide) (hts _ k_653) (fun _ h9 => h9) (congrArg (fun z9 => some (va_rf z9)) hl1) d_Checker_checkLink_6 ?_
  refine lv_astore_n (lv' := [(3, .ref s1), (2, .null), (0, .ref qx), (1, .ref k0)]) hx hb d_Checker_checkLink_9 rfl hl (by decide) rfl (fun ls hl => ?_)
  refine lv_aload_nN hx hb d_Checker_checkLink_10 rfl (lv_at hl 1 rfl) ?_
  refine lv_ifnonnullN hx hb d_Checker_checkLink_11 ?_
  refine lv_aload_n hx hb d_Checker_checkLink_14 rfl (lv_at hl 2 rfl) ?_
  refine va_get (D := (dC, dI)) (ci := 5) (v := .ref qf) (C := R_Checker) (T := F_Checker) (N := 5) hx hb hts i_Checker hown hK hP 0 rfl rfl 1 (by decide) (hts _ k_352) (fun _ h9 => h9) rfl d_Checker_checkLink_15 ?_
  refine lv_iconst (v := nI 4) hx hb d_Checker_checkLink_18 (by decide) ?_
  refine lv_aload_n hx hb d_Checker_checkLink_19 rfl (lv_at hl 0 rfl) ?_
  refine pq_get (D := (dC, dI)) (ci := 11) (v := .ref nl) (C := R_Side) (T := F_Side) (N := 5) hx hb hts i_Side hown hK hP (gL_m hL hs1 (by decide)) (gE_3 (G := G) hs1) rfl 0 (by decide) (hts _ k_614) (fun _ h9 => h9) (congrArg (fun z9 => some (va_rf z9)) hsl) d_Checker_checkLink_20 ?_
  refine pq_get (D := (dC, dI)) (ci := 7) (v := .int (oI (G.2.2.1 nl 2))) (C := R_Name) (T := F_Name) (N := 3) hx hb hts i_Name hown hK hP (gL_m hL hnl (by decide)) (gE_1 (G := G) hnl) rfl 2 (by decide) (hts _ k_150) (fun _ h9 => h9) rfl d_Checker_checkLink_23 ?_
  refine we_i (cx := [(qf, .inr (2, [v0, v1]))]) (wr := [(qx, .inr (5, [.ref qc, .ref qf, .ref na, .ref df, .ref qi]))]) (pl := va_pl L (gE cO G)) (va_runV (As := [.int (nI 4), .int (oI (G.2.2.1 nl 2))]) (rest := []) ⟨hx, hb, hml, hown, hts⟩ (c_Fault_note l dC dI cB cI cL cZ cC cO qf (nI 4) (oI (G.2.2.1 nl 2)) _ ) (cwV 2 hts (good_V k_695 k_534 k_535 k_3 k_536) rfl rfl rfl (by decide +kernel) ⟨Nat.le_of_ble_eq_true rfl, Nat.le_of_ble_eq_true rfl⟩) (wc_preV (k0 := 1) (ci := 2) (r := (R_Fault, F_Fault, 2)) hK hP hD hS hA hF [1] (by decide) rfl rfl rfl) rfl rfl hl.1 rfl (lv_room (Nat.le_of_ble_eq_true rfl)) d_Checker_checkLink_26 ⟨Nat.le_of_ble_eq_true rfl, Nat.le_of_ble_eq_true rfl⟩) hP hD hS hA [1] [0] rfl rfl (by decide) (by decide) (fun r_2 _ H locs w_1 hP hD hS => ?_)
  have hP : va_P (dC, dI) cl ([(qx, .inr (5, [.ref qc, .ref qf, .ref na, .ref df, .ref qi])), (qf, .inr (2, [.int (nI 4), .int (oI (G.2.2.1 nl 2))]))] ++ va_pl L (gE cO G)) H := hP
  have hD : va_D A ([(qx, .inr (5, [.ref qc, .ref qf, .ref na, .ref df, .ref qi])), (qf, .inr (2, [.int (nI 4), .int (oI (G.2.2.1 nl 2))]))] ++ va_pl L (gE cO G)) := hD
  subst w_1
  have hX : (ckl G none none s1 s0 (G.2.2.1 nl 2) (G.2.2.1 nm 2)) = (some (4, G.2.2.1 nl 2), G) := rfl
  exact wr_z (x := false) hx hb hr hlocks ((.int (nI 4), .int (oI (G.2.2.1 nl 2))), G) ⟨by rw [hX]; rfl, by rw [hX]; rfl, by rw [hX]⟩ hK hP hD hS d_Checker_checkLink_29
set_option maxHeartbeats 4000000 in
set_option maxRecDepth 100000 in
/-- checkLink(link) -/
theorem p_Checker_checkLinkNS (l : Launch) (dC : Nat → ClassId) (dI : Nat → Nat → Nat) (cB cI cL cZ cC cO : ClassId) (qx qc qf na df qi : Nat) (v0 v1 : Value) {L : List Nat} {G : PG} (w0 : Nat) (k0 s1 s0 nl nm : Nat) (t0 sz : Nat) (hL : gL L G) (hk : G.1 k0 = 4) (hl1 : G.2.2.2.2.2 k0 0 = some s1) (hr1 : G.2.2.2.2.2 k0 1 = some s0) (hwo : G.2.2.2.2.2 k0 3 = (some w0)) (hs1 : G.1 s1 = 3) (ho1 : ∀ z, G.2.2.1 s1 2 = some z → z < 2 ^ 31) (hlo1 : G.2.1 s1 3 < 100) (hhi1 : G.2.1 s1 4 < 100) (hn01 : G.2.2.1 s1 2 = none → G.2.1 s1 3 = 0 ∧ G.2.1 s1 4 = 0) (hsl : G.2.2.2.2.2 s1 0 = some nl) (hnl : G.1 nl = 1) (hs : G.1 s0 = 3) (ho : ∀ z, G.2.2.1 s0 2 = some z → z < 2 ^ 31) (hlo : G.2.1 s0 3 < 100) (hhi : G.2.1 s0 4 < 100) (hsn : G.2.2.2.2.2 s0 0 = some nm) (hnm : G.1 nm = 1) (hn0 : G.2.2.1 s0 2 = none → G.2.1 s0 3 = 0 ∧ G.2.1 s0 4 = 0) (hW : ∀ w, (some w0) = some w → G.1 w = 2 ∧ G.2.1 w 1 < 3 ∧ G.2.1 w 2 < 100 ∧ G.2.1 w 2 ≤ 16 ∧ G.2.1 w 5 < 65536) (hpl : ∀ z, (G.2.2.1 nm 2) = some z → z < 2 ^ 31) (hpo : G.2.2.2.2.2 k0 2 = none) : Met l y_Checker_checkLink w_Checker_checkLink ({ frames := 4, cells := 0, slots := 0, locals := 220 }) (va_Pc [.ref qx, .ref k0] (wB2 (dC, dI) cl [(cB, .byte), (cI, .int), (cL, .long), (cZ, .boolean), (cC, .char), (cO, .object "java/lang/Object")] sz t0 ([(qx, .inr (5, [.ref qc, .ref qf, .ref na, .ref df, .ref qi])), (qf, .inr (2, [v0, v1]))] ++ va_pl L (gE cO G)))) (va_Qi (fun (r : Int32) (u : (Value × Value) × PG) => r = bI (decide ((ckl G none (some w0) s1 s0 (G.2.2.1 nl 2) (G.2.2.1 nm 2)).1 = none)) ∧ u.1 = fpr (ckl G none (some w0) s1 s0 (G.2.2.1 nl 2) (G.2.2.1 nm 2)).1 v0 v1 ∧ u.2 = (ckl G none (some w0) s1 s0 (G.2.2.1 nl 2) (G.2.2.1 nm 2)).2) (fun u t => wA (dC, dI) cl [(cB, .byte), (cI, .int), (cL, .long), (cZ, .boolean), (cC, .char), (cO, .object "java/lang/Object")] (va_A ([(qx, .inr (5, [.ref qc, .ref qf, .ref na, .ref df, .ref qi])), (qf, .inr (2, [v0, v1]))] ++ va_pl L (gE cO G)) sz) ([(qx, .inr (5, [.ref qc, .ref qf, .ref na, .ref df, .ref qi])), (qf, .inr (2, [u.1.1, u.1.2]))] ++ va_pl L (gE cO u.2)) t) (va_A ([(qx, .inr (5, [.ref qc, .ref qf, .ref na, .ref df, .ref qi])), (qf, .inr (2, [v0, v1]))] ++ va_pl L (gE cO G)) sz)) 0 0 (va_A ([(qx, .inr (5, [.ref qc, .ref qf, .ref na, .ref df, .ref qi])), (qf, .inr (2, [v0, v1]))] ++ va_pl L (gE cO G)) sz) := by
  refine Met.ofW (cc := b_Checker_checkLink) (maxL := 5) (ret := (some ClassFile.FieldType.boolean)) (by decide) rfl ?_
  intro p e s m args below meth c s₁ B hml hv
  obtain ⟨rfl, ⟨hsz, hP, hK, hD0, hF⟩, hE⟩ := hv
  have hx := B.exec
  have hb := B.bytes
  have hr := B.returns
  have hts := atoms_spec (ws := w_Checker_checkLink) B.pre
  have hts : ∀ w ∈ tb, w.before _ s = true := fun w h => hts w (List.mem_cons_of_mem _ h)
  have hown : s.vm.findClass R_Checker = some m.cls := findClass_of_methodNamed B.named
  have hlocks := B.notSynchronized
  subst hsz
  have hD := hD0.self (sz := s.heap.size)
  generalize hAe : va_A ([(qx, .inr (5, [.ref qc, .ref qf, .ref na, .ref df, .ref qi])), (qf, .inr (2, [v0, v1]))] ++ va_pl L (gE cO G)) s.heap.size = A at hD hF hE ⊢
  have hA : ∀ q : Nat, s.heap.size ≤ q → A q := fun q h => by rw [← hAe]; exact Or.inr h
  have hS : va_S A s.heap s.heap [] := va_S.rf
  have hP : va_P (dC, dI) cl ([(qx, .inr (5, [.ref qc, .ref qf, .ref na, .ref df, .ref qi])), (qf, .inr (2, [v0, v1]))] ++ va_pl L (gE cO G)) s.heap := hP
  have hl := lv_entry ([.ref qx, .ref k0]) (n := 5) (Nat.le_of_ble_eq_true rfl)
  rw [lg_entry_eq]
  generalize (lg_sl ([.ref qx, .ref k0]) ++ List.replicate (5 - (lg_sl ([.ref qx, .ref k0])).length) Slot.unset).toArray = ls at hl ⊢
  have hl : lv_has ls 5 [(0, .ref qx), (1, .ref k0)] := hl
  refine lv_aload_n hx hb d_Checker_checkLink_0 rfl (lv_at hl 1 rfl) ?_
  refine pq_get (D := (dC, dI)) (ci := 12) (v := .null) (C := R_Link) (T := F_Link) (N := 4) hx hb hts i_Link hown hK hP (gL_m hL hk (by decide)) (gE_4 (G := G) hk) rfl 2 (by decide) (hts _ k_659) (fun _ h9 => h9) (congrArg (fun z9 => some (va_rf z9)) hpo) d_Checker_checkLink_1 ?_
  refine lv_astore_nN (lv' := [(2, .null), (0, .ref qx), (1, .ref k0)]) hx hb d_Checker_checkLink_4 rfl hl (by decide) rfl (fun ls hl => ?_)
  refine lv_aload_n hx hb d_Checker_checkLink_5 rfl (lv_at hl 2 rfl) ?_
  refine pq_get (D := (dC, dI)) (ci := 12) (v := .ref s1) (C := R_Link) (T := F_Link) (N := 4) hx hb hts i_Link hown hK hP (gL_m hL hk (by decide)) (gE_4 (G := G) hk) rfl 0 (by decide) (hts _ k_653) (fun _ h9 => h9) (congrArg (fun z9 => some (va_rf z9)) hl1) d_Checker_checkLink_6 ?_
  refine lv_astore_n (lv' := [(3, .ref s1), (2, .null), (0, .ref qx), (1, .ref k0)]) hx hb d_Checker_checkLink_9 rfl hl (by decide) rfl (fun ls hl => ?_)
  refine lv_aload_nN hx hb d_Checker_checkLink_10 rfl (lv_at hl 1 rfl) ?_
  refine lv_ifnonnullN hx hb d_Checker_checkLink_11 ?_
  refine lv_aload_n hx hb d_Checker_checkLink_14 rfl (lv_at hl 2 rfl) ?_
  refine va_get (D := (dC, dI)) (ci := 5) (v := .ref qf) (C := R_Checker) (T := F_Checker) (N := 5) hx hb hts i_Checker hown hK hP 0 rfl rfl 1 (by decide) (hts _ k_352) (fun _ h9 => h9) rfl d_Checker_checkLink_15 ?_
  refine lv_iconst (v := nI 4) hx hb d_Checker_checkLink_18 (by decide) ?_
  refine lv_aload_n hx hb d_Checker_checkLink_19 rfl (lv_at hl 0 rfl) ?_
  refine pq_get (D := (dC, dI)) (ci := 11) (v := .ref nl) (C := R_Side) (T := F_Side) (N := 5) hx hb hts i_Side hown hK hP (gL_m hL hs1 (by decide)) (gE_3 (G := G) hs1) rfl 0 (by decide) (hts _ k_614) (fun _ h9 => h9) (congrArg (fun z9 => some (va_rf z9)) hsl) d_Checker_checkLink_20 ?_
  refine pq_get (D := (dC, dI)) (ci := 7) (v := .int (oI (G.2.2.1 nl 2))) (C := R_Name) (T := F_Name) (N := 3) hx hb hts i_Name hown hK hP (gL_m hL hnl (by decide)) (gE_1 (G := G) hnl) rfl 2 (by decide) (hts _ k_150) (fun _ h9 => h9) rfl d_Checker_checkLink_23 ?_
  refine we_i (cx := [(qf, .inr (2, [v0, v1]))]) (wr := [(qx, .inr (5, [.ref qc, .ref qf, .ref na, .ref df, .ref qi]))]) (pl := va_pl L (gE cO G)) (va_runV (As := [.int (nI 4), .int (oI (G.2.2.1 nl 2))]) (rest := []) ⟨hx, hb, hml, hown, hts⟩ (c_Fault_note l dC dI cB cI cL cZ cC cO qf (nI 4) (oI (G.2.2.1 nl 2)) _ ) (cwV 2 hts (good_V k_695 k_534 k_535 k_3 k_536) rfl rfl rfl (by decide +kernel) ⟨Nat.le_of_ble_eq_true rfl, Nat.le_of_ble_eq_true rfl⟩) (wc_preV (k0 := 1) (ci := 2) (r := (R_Fault, F_Fault, 2)) hK hP hD hS hA hF [1] (by decide) rfl rfl rfl) rfl rfl hl.1 rfl (lv_room (Nat.le_of_ble_eq_true rfl)) d_Checker_checkLink_26 ⟨Nat.le_of_ble_eq_true rfl, Nat.le_of_ble_eq_true rfl⟩) hP hD hS hA [1] [0] rfl rfl (by decide) (by decide) (fun r_2 _ H locs w_1 hP hD hS => ?_)
  have hP : va_P (dC, dI) cl ([(qx, .inr (5, [.ref qc, .ref qf, .ref na, .ref df, .ref qi])), (qf, .inr (2, [.int (nI 4), .int (oI (G.2.2.1 nl 2))]))] ++ va_pl L (gE cO G)) H := hP
  have hD : va_D A ([(qx, .inr (5, [.ref qc, .ref qf, .ref na, .ref df, .ref qi])), (qf, .inr (2, [.int (nI 4), .int (oI (G.2.2.1 nl 2))]))] ++ va_pl L (gE cO G)) := hD
  subst w_1
  have hX : (ckl G none (some w0) s1 s0 (G.2.2.1 nl 2) (G.2.2.1 nm 2)) = (some (4, G.2.2.1 nl 2), G) := rfl
  exact wr_z (x := false) hx hb hr hlocks ((.int (nI 4), .int (oI (G.2.2.1 nl 2))), G) ⟨by rw [hX]; rfl, by rw [hX]; rfl, by rw [hX]⟩ hK hP hD hS d_Checker_checkLink_29
set_option maxHeartbeats 4000000 in
set_option maxRecDepth 100000 in
/-- checkLink(link) -/
theorem p_Checker_checkLinkSN (l : Launch) (dC : Nat → ClassId) (dI : Nat → Nat → Nat) (cB cI cL cZ cC cO : ClassId) (qx qc qf na df qi : Nat) (v0 v1 : Value) {L : List Nat} {G : PG}  (k0 p0 s1 s0 nl nm : Nat) (t0 sz : Nat) (hL : gL L G) (hk : G.1 k0 = 4) (hl1 : G.2.2.2.2.2 k0 0 = some s1) (hr1 : G.2.2.2.2.2 k0 1 = some s0) (hwo : G.2.2.2.2.2 k0 3 = none) (hs1 : G.1 s1 = 3) (ho1 : ∀ z, G.2.2.1 s1 2 = some z → z < 2 ^ 31) (hlo1 : G.2.1 s1 3 < 100) (hhi1 : G.2.1 s1 4 < 100) (hn01 : G.2.2.1 s1 2 = none → G.2.1 s1 3 = 0 ∧ G.2.1 s1 4 = 0) (hsl : G.2.2.2.2.2 s1 0 = some nl) (hnl : G.1 nl = 1) (hs : G.1 s0 = 3) (ho : ∀ z, G.2.2.1 s0 2 = some z → z < 2 ^ 31) (hlo : G.2.1 s0 3 < 100) (hhi : G.2.1 s0 4 < 100) (hsn : G.2.2.2.2.2 s0 0 = some nm) (hnm : G.1 nm = 1) (hn0 : G.2.2.1 s0 2 = none → G.2.1 s0 3 = 0 ∧ G.2.1 s0 4 = 0) (hW : ∀ w, none = some w → G.1 w = 2 ∧ G.2.1 w 1 < 3 ∧ G.2.1 w 2 < 100 ∧ G.2.1 w 2 ≤ 16 ∧ G.2.1 w 5 < 65536) (hpl : ∀ z, (G.2.2.1 nm 2) = some z → z < 2 ^ 31) (hpo : G.2.2.2.2.2 k0 2 = some p0) (hp1 : G.1 p0 = 2) (hp2 : G.2.1 p0 1 < 3) (hp3 : G.2.1 p0 2 ≤ 16) (hp4 : G.2.1 p0 5 < 65536) : Met l y_Checker_checkLink w_Checker_checkLink ({ frames := 4, cells := 0, slots := 0, locals := 220 }) (va_Pc [.ref qx, .ref k0] (wB2 (dC, dI) cl [(cB, .byte), (cI, .int), (cL, .long), (cZ, .boolean), (cC, .char), (cO, .object "java/lang/Object")] sz t0 ([(qx, .inr (5, [.ref qc, .ref qf, .ref na, .ref df, .ref qi])), (qf, .inr (2, [v0, v1]))] ++ va_pl L (gE cO G)))) (va_Qi (fun (r : Int32) (u : (Value × Value) × PG) => r = bI (decide ((ckl G (some p0) none s1 s0 (G.2.2.1 nl 2) (G.2.2.1 nm 2)).1 = none)) ∧ u.1 = fpr (ckl G (some p0) none s1 s0 (G.2.2.1 nl 2) (G.2.2.1 nm 2)).1 v0 v1 ∧ u.2 = (ckl G (some p0) none s1 s0 (G.2.2.1 nl 2) (G.2.2.1 nm 2)).2) (fun u t => wA (dC, dI) cl [(cB, .byte), (cI, .int), (cL, .long), (cZ, .boolean), (cC, .char), (cO, .object "java/lang/Object")] (va_A ([(qx, .inr (5, [.ref qc, .ref qf, .ref na, .ref df, .ref qi])), (qf, .inr (2, [v0, v1]))] ++ va_pl L (gE cO G)) sz) ([(qx, .inr (5, [.ref qc, .ref qf, .ref na, .ref df, .ref qi])), (qf, .inr (2, [u.1.1, u.1.2]))] ++ va_pl L (gE cO u.2)) t) (va_A ([(qx, .inr (5, [.ref qc, .ref qf, .ref na, .ref df, .ref qi])), (qf, .inr (2, [v0, v1]))] ++ va_pl L (gE cO G)) sz)) 0 0 (va_A ([(qx, .inr (5, [.ref qc, .ref qf, .ref na, .ref df, .ref qi])), (qf, .inr (2, [v0, v1]))] ++ va_pl L (gE cO G)) sz) := by
  refine Met.ofW (cc := b_Checker_checkLink) (maxL := 5) (ret := (some ClassFile.FieldType.boolean)) (by decide) rfl ?_
  intro p e s m args below meth c s₁ B hml hv
  obtain ⟨rfl, ⟨hsz, hP, hK, hD0, hF⟩, hE⟩ := hv
  have hx := B.exec
  have hb := B.bytes
  have hr := B.returns
  have hts := atoms_spec (ws := w_Checker_checkLink) B.pre
  have hts : ∀ w ∈ tb, w.before _ s = true := fun w h => hts w (List.mem_cons_of_mem _ h)
  have hown : s.vm.findClass R_Checker = some m.cls := findClass_of_methodNamed B.named
  have hlocks := B.notSynchronized
  subst hsz
  have hD := hD0.self (sz := s.heap.size)
  generalize hAe : va_A ([(qx, .inr (5, [.ref qc, .ref qf, .ref na, .ref df, .ref qi])), (qf, .inr (2, [v0, v1]))] ++ va_pl L (gE cO G)) s.heap.size = A at hD hF hE ⊢
  have hA : ∀ q : Nat, s.heap.size ≤ q → A q := fun q h => by rw [← hAe]; exact Or.inr h
  have hS : va_S A s.heap s.heap [] := va_S.rf
  have hP : va_P (dC, dI) cl ([(qx, .inr (5, [.ref qc, .ref qf, .ref na, .ref df, .ref qi])), (qf, .inr (2, [v0, v1]))] ++ va_pl L (gE cO G)) s.heap := hP
  have hl := lv_entry ([.ref qx, .ref k0]) (n := 5) (Nat.le_of_ble_eq_true rfl)
  rw [lg_entry_eq]
  generalize (lg_sl ([.ref qx, .ref k0]) ++ List.replicate (5 - (lg_sl ([.ref qx, .ref k0])).length) Slot.unset).toArray = ls at hl ⊢
  have hl : lv_has ls 5 [(0, .ref qx), (1, .ref k0)] := hl
  refine lv_aload_n hx hb d_Checker_checkLink_0 rfl (lv_at hl 1 rfl) ?_
  refine pq_get (D := (dC, dI)) (ci := 12) (v := .ref p0) (C := R_Link) (T := F_Link) (N := 4) hx hb hts i_Link hown hK hP (gL_m hL hk (by decide)) (gE_4 (G := G) hk) rfl 2 (by decide) (hts _ k_659) (fun _ h9 => h9) (congrArg (fun z9 => some (va_rf z9)) hpo) d_Checker_checkLink_1 ?_
  refine lv_astore_n (lv' := [(2, .ref p0), (0, .ref qx), (1, .ref k0)]) hx hb d_Checker_checkLink_4 rfl hl (by decide) rfl (fun ls hl => ?_)
  refine lv_aload_n hx hb d_Checker_checkLink_5 rfl (lv_at hl 2 rfl) ?_
  refine pq_get (D := (dC, dI)) (ci := 12) (v := .ref s1) (C := R_Link) (T := F_Link) (N := 4) hx hb hts i_Link hown hK hP (gL_m hL hk (by decide)) (gE_4 (G := G) hk) rfl 0 (by decide) (hts _ k_653) (fun _ h9 => h9) (congrArg (fun z9 => some (va_rf z9)) hl1) d_Checker_checkLink_6 ?_
  refine lv_astore_n (lv' := [(3, .ref s1), (2, .ref p0), (0, .ref qx), (1, .ref k0)]) hx hb d_Checker_checkLink_9 rfl hl (by decide) rfl (fun ls hl => ?_)
  refine lv_aload_n hx hb d_Checker_checkLink_10 rfl (lv_at hl 1 rfl) ?_
  refine lv_ifnonnull (tgt := 30) hx hb d_Checker_checkLink_11 (by decide) ?_
  refine lv_aload_n hx hb d_Checker_checkLink_30 rfl (lv_at hl 0 rfl) ?_
  refine lv_aload_n hx hb d_Checker_checkLink_31 rfl (lv_at hl 1 rfl) ?_
  refine pq_get (D := (dC, dI)) (ci := 8) (v := .int (nI (G.2.1 p0 2))) (C := R_Wire) (T := F_Wire) (N := 7) hx hb hts i_Wire hown hK hP (gL_m hL hp1 (by decide)) (gE_2 (G := G) hp1) rfl 2 (by decide) (hts _ k_222) (fun _ h9 => h9) (congrArg (fun z9 => some (Value.int (nI z9))) rfl) d_Checker_checkLink_32 ?_
  refine wd_i (cx := []) (wr := [(qx, .inr (5, [.ref qc, .ref qf, .ref na, .ref df, .ref qi])), (qf, .inr (2, [v0, v1]))]) (pl := va_pl L (gE cO G)) (va_runV (As := [.int (nI (G.2.1 p0 2))]) (rest := []) ⟨hx, hb, hml, hown, hts⟩ (p_Side_fits l dC dI cB cI cL cZ cC cO s1 (G.2.1 p0 2) t0 _ hL hs1 ho1 hlo1 hhi1 (by omega)) (cwV 1 hts (good_V k_706 k_707 k_708 k_21 k_709) rfl rfl rfl (by decide +kernel) ⟨Nat.le_of_ble_eq_true rfl, Nat.le_of_ble_eq_true rfl⟩) (wd_preV (ci := 11) (r := (R_Side, F_Side, 5)) hK hP hD hS hA hF hE [] (by decide) rfl rfl (pq_at (gL_m hL hs1 (by decide)) (gE_3 (G := G) hs1))) rfl rfl hl.1 rfl (lv_room (Nat.le_of_ble_eq_true rfl)) d_Checker_checkLink_35 ⟨Nat.le_of_ble_eq_true rfl, Nat.le_of_ble_eq_true rfl⟩) hP hD hS hA [] [0, 1] rfl rfl (by decide) (by decide) (fun r_2 _ H locs w_1 hP hD hS => ?_)
  have hP : va_P (dC, dI) cl ([(qx, .inr (5, [.ref qc, .ref qf, .ref na, .ref df, .ref qi])), (qf, .inr (2, [v0, v1]))] ++ va_pl L (gE cO G)) H := hP
  have hD : va_D A ([(qx, .inr (5, [.ref qc, .ref qf, .ref na, .ref df, .ref qi])), (qf, .inr (2, [v0, v1]))] ++ va_pl L (gE cO G)) := hD
  subst w_1
  refine nv_bif_ne (tgt := 54) hx hb d_Checker_checkLink_38 (by decide) (fun c_3 => ?_) (fun c_3 => ?_)
  · have hbl : m_bits (G.2.2.1 s1 2) (G.2.1 s1 3) (G.2.1 s1 4) (G.2.1 p0 2) < 200 := by unfold m_bits; split <;> omega
    refine lv_aload_n hx hb d_Checker_checkLink_54 rfl (lv_at hl 1 rfl) ?_
    refine pq_get (D := (dC, dI)) (ci := 8) (v := .int (nI (G.2.1 p0 1))) (C := R_Wire) (T := F_Wire) (N := 7) hx hb hts i_Wire hown hK hP (gL_m hL hp1 (by decide)) (gE_2 (G := G) hp1) rfl 1 (by decide) (hts _ k_219) (fun _ h9 => h9) rfl d_Checker_checkLink_55 ?_
    refine lv_iconst (v := nI 1) hx hb d_Checker_checkLink_58 (by decide) ?_
    refine nv_icmp_ne (tgt := 83) hx hb (by omega) (by omega) d_Checker_checkLink_59 (by decide) (fun c_4 => ?_) (fun c_4 => ?_)
    · refine lv_aload_n hx hb d_Checker_checkLink_83 rfl (lv_at hl 0 rfl) ?_
      refine lv_aload_n hx hb d_Checker_checkLink_84 rfl (lv_at hl 1 rfl) ?_
      refine pq_get (D := (dC, dI)) (ci := 8) (v := .int (nI (G.2.1 p0 2))) (C := R_Wire) (T := F_Wire) (N := 7) hx hb hts i_Wire hown hK hP (gL_m hL hp1 (by decide)) (gE_2 (G := G) hp1) rfl 2 (by decide) (hts _ k_222) (fun _ h9 => h9) (congrArg (fun z9 => some (Value.int (nI z9))) rfl) d_Checker_checkLink_85 ?_
      obtain ⟨hm1, hm2⟩ := mask_f (G := G) (w := p0) (s := s1) c_3 hp3 hn01
      have hm3 := m_set_lt2 hm2
      refine wd_i (cx := []) (wr := [(qx, .inr (5, [.ref qc, .ref qf, .ref na, .ref df, .ref qi])), (qf, .inr (2, [v0, v1]))]) (pl := va_pl L (gE cO G)) (va_runV (As := [.int (nI (G.2.1 p0 2))]) (rest := []) ⟨hx, hb, hml, hown, hts⟩ (p_Side_bitMask2 l dC dI cB cI cL cZ cC cO s1 (G.2.1 p0 2) t0 _ hL hs1 ho1 hlo1 hhi1 (fits_le c_3)) (cwV 1 hts (good_V k_743 k_744 k_745 k_21 k_746) rfl rfl rfl (by decide +kernel) ⟨Nat.le_of_ble_eq_true rfl, Nat.le_of_ble_eq_true rfl⟩) (wd_preV (ci := 11) (r := (R_Side, F_Side, 5)) hK hP hD hS hA hF hE [] (by decide) rfl rfl (pq_at (gL_m hL hs1 (by decide)) (gE_3 (G := G) hs1))) rfl rfl hl.1 rfl (lv_room (Nat.le_of_ble_eq_true rfl)) d_Checker_checkLink_88 ⟨Nat.le_of_ble_eq_true rfl, Nat.le_of_ble_eq_true rfl⟩) hP hD hS hA [] [0, 1] rfl rfl (by decide) (by decide) (fun r_6 _ H locs w_5 hP hD hS => ?_)
      have hP : va_P (dC, dI) cl ([(qx, .inr (5, [.ref qc, .ref qf, .ref na, .ref df, .ref qi])), (qf, .inr (2, [v0, v1]))] ++ va_pl L (gE cO G)) H := hP
      have hD : va_D A ([(qx, .inr (5, [.ref qc, .ref qf, .ref na, .ref df, .ref qi])), (qf, .inr (2, [v0, v1]))] ++ va_pl L (gE cO G)) := hD
      rw [hm1] at w_5
      subst w_5
      have hand : G.2.1 p0 5 &&& m_set (m_bits (G.2.2.1 s1 2) (G.2.1 s1 3) (G.2.1 s1 4) (G.2.1 p0 2)) (G.2.1 s1 3) ≤ G.2.1 p0 5 := Nat.and_le_left
      refine lv_istore (lv' := [(4, .int (nI (m_set (m_bits (G.2.2.1 s1 2) (G.2.1 s1 3) (G.2.1 s1 4) (G.2.1 p0 2)) (G.2.1 s1 3)))), (3, .ref s1), (2, .ref p0), (0, .ref qx), (1, .ref k0)]) hx hb d_Checker_checkLink_91 hl (by decide) rfl (fun ls hl => ?_)
      refine lv_aload_n hx hb d_Checker_checkLink_93 rfl (lv_at hl 2 rfl) ?_
      refine pq_get (D := (dC, dI)) (ci := 8) (v := .int (nI (G.2.1 p0 5))) (C := R_Wire) (T := F_Wire) (N := 7) hx hb hts i_Wire hown hK hP (gL_m hL hp1 (by decide)) (gE_2 (G := G) hp1) rfl 5 (by decide) (hts _ k_232) (fun _ h9 => h9) (congrArg (fun z9 => some (Value.int (nI z9))) rfl) d_Checker_checkLink_94 ?_
      refine lv_iload hx hb d_Checker_checkLink_97 (lv_at hl 0 rfl) ?_
      refine nv_iand hx hb d_Checker_checkLink_99 ?_
      refine nv_if_eq (tgt := 119) hx hb (by omega) d_Checker_checkLink_100 (by decide) (fun c_7 => ?_) (fun c_7 => ?_)
      · refine lv_aload_n hx hb d_Checker_checkLink_119 rfl (lv_at hl 2 rfl) ?_
        refine lv_dup hx hb d_Checker_checkLink_120 rfl ?_
        refine pq_get (D := (dC, dI)) (ci := 8) (v := .int (nI (G.2.1 p0 5))) (C := R_Wire) (T := F_Wire) (N := 7) hx hb hts i_Wire hown hK hP (gL_m hL hp1 (by decide)) (gE_2 (G := G) hp1) rfl 5 (by decide) (hts _ k_232) (fun _ h9 => h9) (congrArg (fun z9 => some (Value.int (nI z9))) rfl) d_Checker_checkLink_121 ?_
        refine lv_iload hx hb d_Checker_checkLink_124 (lv_at hl 0 rfl) ?_
        refine nv_ior hx hb d_Checker_checkLink_126 ?_
        refine pq_put (D := (dC, dI)) (ci := 8) (v := .int (nI ((G.2.1 p0 5) ||| (m_set (m_bits (G.2.2.1 s1 2) (G.2.1 s1 3) (G.2.1 s1 4) (G.2.1 p0 2)) (G.2.1 s1 3))))) (ty := .int) (C := R_Wire) (T := F_Wire) (N := 7) hx hb hts i_Wire t_Wire t_Wire_ok n_Wire hown hK hP hD hS (gL_m hL hp1 (by decide)) (gE_2 (G := G) hp1) rfl 5 (by decide) (hts _ k_232) (fun _ h9 => h9) rfl (by decide +kernel) rfl rfl (Nat.le_of_ble_eq_true rfl) (uE_2_5 (G := G) (v := (G.2.1 p0 5) ||| (m_set (m_bits (G.2.2.1 s1 2) (G.2.1 s1 3) (G.2.1 s1 4) (G.2.1 p0 2)) (G.2.1 s1 3))) hp1) d_Checker_checkLink_127 (fun H locs hP hD hS => ?_)
        have hP : va_P (dC, dI) cl ([(qx, .inr (5, [.ref qc, .ref qf, .ref na, .ref df, .ref qi])), (qf, .inr (2, [v0, v1]))] ++ va_pl L (gE cO (gN G p0 5 ((G.2.1 p0 5) ||| (m_set (m_bits (G.2.2.1 s1 2) (G.2.1 s1 3) (G.2.1 s1 4) (G.2.1 p0 2)) (G.2.1 s1 3)))))) H := hP
        have hD : va_D A ([(qx, .inr (5, [.ref qc, .ref qf, .ref na, .ref df, .ref qi])), (qf, .inr (2, [v0, v1]))] ++ va_pl L (gE cO (gN G p0 5 ((G.2.1 p0 5) ||| (m_set (m_bits (G.2.2.1 s1 2) (G.2.1 s1 3) (G.2.1 s1 4) (G.2.1 p0 2)) (G.2.1 s1 3)))))) := hD
        refine lv_aload_n hx hb d_Checker_checkLink_130 rfl (lv_at hl 3 rfl) ?_
        refine lv_aload_n hx hb d_Checker_checkLink_131 rfl (lv_at hl 4 rfl) ?_
        refine pq_get (D := (dC, dI)) (ci := 12) (v := va_rf none) (C := R_Link) (T := F_Link) (N := 4) hx hb hts i_Link hown hK hP (gL_m hL hk (by decide)) (gE_4 (G := (gN G p0 5 ((G.2.1 p0 5) ||| (m_set (m_bits (G.2.2.1 s1 2) (G.2.1 s1 3) (G.2.1 s1 4) (G.2.1 p0 2)) (G.2.1 s1 3))))) hk) rfl 3 (by decide) (hts _ k_662) (fun _ h9 => h9) (congrArg (fun z9 => some (va_rf z9)) hwo) d_Checker_checkLink_132 ?_
        refine lv_aload_n hx hb d_Checker_checkLink_135 rfl (lv_at hl 4 rfl) ?_
        refine pq_get (D := (dC, dI)) (ci := 12) (v := .ref s0) (C := R_Link) (T := F_Link) (N := 4) hx hb hts i_Link hown hK hP (gL_m hL hk (by decide)) (gE_4 (G := (gN G p0 5 ((G.2.1 p0 5) ||| (m_set (m_bits (G.2.2.1 s1 2) (G.2.1 s1 3) (G.2.1 s1 4) (G.2.1 p0 2)) (G.2.1 s1 3))))) hk) rfl 1 (by decide) (hts _ k_657) (fun _ h9 => h9) (congrArg (fun z9 => some (va_rf z9)) hr1) d_Checker_checkLink_136 ?_
        refine lv_aload_n hx hb d_Checker_checkLink_139 rfl (lv_at hl 1 rfl) ?_
        refine lv_aload_n hx hb d_Checker_checkLink_140 rfl (lv_at hl 2 rfl) ?_
        refine pq_get (D := (dC, dI)) (ci := 8) (v := .int (nI (G.2.1 p0 2))) (C := R_Wire) (T := F_Wire) (N := 7) hx hb hts i_Wire hown hK hP (gL_m hL hp1 (by decide)) (gE_2 (G := (gN G p0 5 ((G.2.1 p0 5) ||| (m_set (m_bits (G.2.2.1 s1 2) (G.2.1 s1 3) (G.2.1 s1 4) (G.2.1 p0 2)) (G.2.1 s1 3))))) hp1) rfl 2 (by decide) (hts _ k_222) (fun _ h9 => h9) (congrArg (fun z9 => some (Value.int (nI z9))) ((up2_k _ _ _ _ (by decide)).trans rfl)) d_Checker_checkLink_141 ?_
        refine wd_i (cx := []) (wr := [(qx, .inr (5, [.ref qc, .ref qf, .ref na, .ref df, .ref qi])), (qf, .inr (2, [v0, v1]))]) (pl := va_pl L (gE cO (gN G p0 5 ((G.2.1 p0 5) ||| (m_set (m_bits (G.2.2.1 s1 2) (G.2.1 s1 3) (G.2.1 s1 4) (G.2.1 p0 2)) (G.2.1 s1 3)))))) (va_runV (As := [.int (nI (G.2.1 p0 2))]) (rest := [.ref s0, va_rf none, .ref qx]) ⟨hx, hb, hml, hown, hts⟩ (p_Side_width2 l dC dI cB cI cL cZ cC cO (G := gN G p0 5 ((G.2.1 p0 5) ||| (m_set (m_bits (G.2.2.1 s1 2) (G.2.1 s1 3) (G.2.1 s1 4) (G.2.1 p0 2)) (G.2.1 s1 3)))) s1 (G.2.1 p0 2) t0 _ hL hs1 ho1 (by show up2 _ _ _ _ _ _ < _; rw [up2_k _ _ _ _ (by decide)]; exact hlo1) (by show up2 _ _ _ _ _ _ < _; rw [up2_k _ _ _ _ (by decide)]; exact hhi1) (by show _ → up2 _ _ _ _ _ _ ≤ up2 _ _ _ _ _ _; rw [up2_k _ _ _ _ (by decide), up2_k _ _ _ _ (by decide)]; exact fits_le c_3)) (cwV 1 hts (good_V k_714 k_715 k_716 k_21 k_717) rfl rfl rfl (by decide +kernel) ⟨Nat.le_of_ble_eq_true rfl, Nat.le_of_ble_eq_true rfl⟩) (wd_preV (ci := 11) (r := (R_Side, F_Side, 5)) hK hP hD hS hA hF hE [] (by decide) rfl rfl (pq_at (gL_m hL hs1 (by decide)) (gE_3 (G := (gN G p0 5 ((G.2.1 p0 5) ||| (m_set (m_bits (G.2.2.1 s1 2) (G.2.1 s1 3) (G.2.1 s1 4) (G.2.1 p0 2)) (G.2.1 s1 3))))) hs1))) rfl rfl hl.1 rfl (lv_room (Nat.le_of_ble_eq_true rfl)) d_Checker_checkLink_144 ⟨Nat.le_of_ble_eq_true rfl, Nat.le_of_ble_eq_true rfl⟩) hP hD hS hA [] [0, 1] rfl rfl (by decide) (by decide) (fun r_9 _ H locs w_8 hP hD hS => ?_)
        have hP : va_P (dC, dI) cl ([(qx, .inr (5, [.ref qc, .ref qf, .ref na, .ref df, .ref qi])), (qf, .inr (2, [v0, v1]))] ++ va_pl L (gE cO (gN G p0 5 ((G.2.1 p0 5) ||| (m_set (m_bits (G.2.2.1 s1 2) (G.2.1 s1 3) (G.2.1 s1 4) (G.2.1 p0 2)) (G.2.1 s1 3)))))) H := hP
        have hD : va_D A ([(qx, .inr (5, [.ref qc, .ref qf, .ref na, .ref df, .ref qi])), (qf, .inr (2, [v0, v1]))] ++ va_pl L (gE cO (gN G p0 5 ((G.2.1 p0 5) ||| (m_set (m_bits (G.2.2.1 s1 2) (G.2.1 s1 3) (G.2.1 s1 4) (G.2.1 p0 2)) (G.2.1 s1 3)))))) := hD
        have hwz : r_9 = nI (m_bits (G.2.2.1 s1 2) (G.2.1 s1 3) (G.2.1 s1 4) (G.2.1 p0 2)) := by rw [w_8]; show nI (m_bits _ (up2 _ _ _ _ _ _) (up2 _ _ _ _ _ _) _) = _; rw [up2_k _ _ _ _ (by decide), up2_k _ _ _ _ (by decide)]
        subst hwz
        refine wd_i (cx := [(qx, .inr (5, [.ref qc, .ref qf, .ref na, .ref df, .ref qi])), (qf, .inr (2, [v0, v1]))]) (wr := []) (pl := va_pl L (gE cO (gN G p0 5 ((G.2.1 p0 5) ||| (m_set (m_bits (G.2.2.1 s1 2) (G.2.1 s1 3) (G.2.1 s1 4) (G.2.1 p0 2)) (G.2.1 s1 3)))))) (va_runV (As := [va_rf none, .ref s0, .int (nI (m_bits (G.2.2.1 s1 2) (G.2.1 s1 3) (G.2.1 s1 4) (G.2.1 p0 2)))]) (rest := []) ⟨hx, hb, hml, hown, hts⟩ (p_Checker_checkSource l dC dI cB cI cL cZ cC cO qx qc qf na df qi v0 v1 (G := gN G p0 5 ((G.2.1 p0 5) ||| (m_set (m_bits (G.2.2.1 s1 2) (G.2.1 s1 3) (G.2.1 s1 4) (G.2.1 p0 2)) (G.2.1 s1 3)))) none s0 (m_bits (G.2.2.1 s1 2) (G.2.1 s1 3) (G.2.1 s1 4) (G.2.1 p0 2)) nm t0 _ hL hs ho (by show up2 _ _ _ _ _ _ < _; rw [up2_k _ _ _ _ (by decide)]; exact hlo) (by show up2 _ _ _ _ _ _ < _; rw [up2_k _ _ _ _ (by decide)]; exact hhi) hsn hnm (by omega) (fun w9 e9 => ⟨(hW w9 e9).1, by show up2 _ _ _ _ _ _ < _; rw [up2_k _ _ _ _ (by decide)]; exact (hW w9 e9).2.1, by show up2 _ _ _ _ _ _ < _; rw [up2_k _ _ _ _ (by decide)]; exact (hW w9 e9).2.2.1⟩) hpl) (cwV 3 hts (good_V k_748 k_750 s_Checker_checkSource k_8 k_751) rfl rfl rfl (by decide +kernel) ⟨Nat.le_of_ble_eq_true rfl, Nat.le_of_ble_eq_true rfl⟩) (wd_preV (ci := 5) (r := (R_Checker, F_Checker, 5)) hK hP hD hS hA hF hE [0, 1] (by decide) rfl rfl ⟨0, rfl⟩) rfl rfl hl.1 rfl (lv_room (Nat.le_of_ble_eq_true rfl)) d_Checker_checkLink_147 ⟨Nat.le_of_ble_eq_true rfl, Nat.le_of_ble_eq_true rfl⟩) hP hD hS hA [0, 1] [] rfl rfl (by decide) (by decide) (fun r_11 u H locs w_10 hP hD hS => ?_)
        have hP : va_P (dC, dI) cl ([(qx, .inr (5, [.ref qc, .ref qf, .ref na, .ref df, .ref qi])), (qf, .inr (2, [u.1, u.2]))] ++ va_pl L (gE cO (gN G p0 5 ((G.2.1 p0 5) ||| (m_set (m_bits (G.2.2.1 s1 2) (G.2.1 s1 3) (G.2.1 s1 4) (G.2.1 p0 2)) (G.2.1 s1 3)))))) H := hP
        have hD : va_D A ([(qx, .inr (5, [.ref qc, .ref qf, .ref na, .ref df, .ref qi])), (qf, .inr (2, [u.1, u.2]))] ++ va_pl L (gE cO (gN G p0 5 ((G.2.1 p0 5) ||| (m_set (m_bits (G.2.2.1 s1 2) (G.2.1 s1 3) (G.2.1 s1 4) (G.2.1 p0 2)) (G.2.1 s1 3)))))) := hD
        obtain ⟨r_11e, hz2⟩ := w_10
        subst r_11e
        have hz1 := rfl (a := (0 : Nat))
        have hz3 := rfl (a := (0 : Nat))
        have hX : (ckl G (some p0) none s1 s0 (G.2.2.1 nl 2) (G.2.2.1 nm 2)) = ((cks (gN G p0 5 ((G.2.1 p0 5) ||| (m_set (m_bits (G.2.2.1 s1 2) (G.2.1 s1 3) (G.2.1 s1 4) (G.2.1 p0 2)) (G.2.1 s1 3)))) none s0 (m_bits (G.2.2.1 s1 2) (G.2.1 s1 3) (G.2.1 s1 4) (G.2.1 p0 2)) (G.2.2.1 nm 2)), gN G p0 5 ((G.2.1 p0 5) ||| (m_set (m_bits (G.2.2.1 s1 2) (G.2.1 s1 3) (G.2.1 s1 4) (G.2.1 p0 2)) (G.2.1 s1 3)))) := by unfold ckl; show (if _ then _ else _) = _; rw [if_pos c_3, if_neg c_4, if_pos c_7]
        exact wr_z (x := decide ((cks (gN G p0 5 ((G.2.1 p0 5) ||| (m_set (m_bits (G.2.2.1 s1 2) (G.2.1 s1 3) (G.2.1 s1 4) (G.2.1 p0 2)) (G.2.1 s1 3)))) none s0 (m_bits (G.2.2.1 s1 2) (G.2.1 s1 3) (G.2.1 s1 4) (G.2.1 p0 2)) (G.2.2.1 nm 2)) = none)) hx hb hr hlocks ((u.1, u.2), gN G p0 5 ((G.2.1 p0 5) ||| (m_set (m_bits (G.2.2.1 s1 2) (G.2.1 s1 3) (G.2.1 s1 4) (G.2.1 p0 2)) (G.2.1 s1 3)))) ⟨by rw [hX], by rw [hX]; exact hz2, by rw [hX]⟩ hK hP hD hS d_Checker_checkLink_150
      · refine lv_aload_n hx hb d_Checker_checkLink_103 rfl (lv_at hl 3 rfl) ?_
        refine va_get (D := (dC, dI)) (ci := 5) (v := .ref qf) (C := R_Checker) (T := F_Checker) (N := 5) hx hb hts i_Checker hown hK hP 0 rfl rfl 1 (by decide) (hts _ k_352) (fun _ h9 => h9) rfl d_Checker_checkLink_104 ?_
        refine lv_iconst (v := nI 3) hx hb d_Checker_checkLink_107 (by decide) ?_
        refine lv_aload_n hx hb d_Checker_checkLink_108 rfl (lv_at hl 1 rfl) ?_
        refine pq_get (D := (dC, dI)) (ci := 11) (v := .ref nl) (C := R_Side) (T := F_Side) (N := 5) hx hb hts i_Side hown hK hP (gL_m hL hs1 (by decide)) (gE_3 (G := G) hs1) rfl 0 (by decide) (hts _ k_614) (fun _ h9 => h9) (congrArg (fun z9 => some (va_rf z9)) hsl) d_Checker_checkLink_109 ?_
        refine pq_get (D := (dC, dI)) (ci := 7) (v := .int (oI (G.2.2.1 nl 2))) (C := R_Name) (T := F_Name) (N := 3) hx hb hts i_Name hown hK hP (gL_m hL hnl (by decide)) (gE_1 (G := G) hnl) rfl 2 (by decide) (hts _ k_150) (fun _ h9 => h9) rfl d_Checker_checkLink_112 ?_
        refine we_i (cx := [(qf, .inr (2, [v0, v1]))]) (wr := [(qx, .inr (5, [.ref qc, .ref qf, .ref na, .ref df, .ref qi]))]) (pl := va_pl L (gE cO G)) (va_runV (As := [.int (nI 3), .int (oI (G.2.2.1 nl 2))]) (rest := []) ⟨hx, hb, hml, hown, hts⟩ (c_Fault_note l dC dI cB cI cL cZ cC cO qf (nI 3) (oI (G.2.2.1 nl 2)) _ ) (cwV 2 hts (good_V k_695 k_534 k_535 k_3 k_536) rfl rfl rfl (by decide +kernel) ⟨Nat.le_of_ble_eq_true rfl, Nat.le_of_ble_eq_true rfl⟩) (wc_preV (k0 := 1) (ci := 2) (r := (R_Fault, F_Fault, 2)) hK hP hD hS hA hF [1] (by decide) rfl rfl rfl) rfl rfl hl.1 rfl (lv_room (Nat.le_of_ble_eq_true rfl)) d_Checker_checkLink_115 ⟨Nat.le_of_ble_eq_true rfl, Nat.le_of_ble_eq_true rfl⟩) hP hD hS hA [1] [0] rfl rfl (by decide) (by decide) (fun r_13 _ H locs w_12 hP hD hS => ?_)
        have hP : va_P (dC, dI) cl ([(qx, .inr (5, [.ref qc, .ref qf, .ref na, .ref df, .ref qi])), (qf, .inr (2, [.int (nI 3), .int (oI (G.2.2.1 nl 2))]))] ++ va_pl L (gE cO G)) H := hP
        have hD : va_D A ([(qx, .inr (5, [.ref qc, .ref qf, .ref na, .ref df, .ref qi])), (qf, .inr (2, [.int (nI 3), .int (oI (G.2.2.1 nl 2))]))] ++ va_pl L (gE cO G)) := hD
        subst w_12
        have hX : (ckl G (some p0) none s1 s0 (G.2.2.1 nl 2) (G.2.2.1 nm 2)) = (some (3, G.2.2.1 nl 2), G) := by unfold ckl; show (if _ then _ else _) = _; rw [if_pos c_3, if_neg c_4, if_neg c_7]
        exact wr_z (x := false) hx hb hr hlocks ((.int (nI 3), .int (oI (G.2.2.1 nl 2))), G) ⟨by rw [hX]; rfl, by rw [hX]; rfl, by rw [hX]⟩ hK hP hD hS d_Checker_checkLink_118
    · refine lv_aload_n hx hb d_Checker_checkLink_62 rfl (lv_at hl 2 rfl) ?_
      refine lv_aload_n hx hb d_Checker_checkLink_63 rfl (lv_at hl 3 rfl) ?_
      refine pq_get (D := (dC, dI)) (ci := 12) (v := va_rf none) (C := R_Link) (T := F_Link) (N := 4) hx hb hts i_Link hown hK hP (gL_m hL hk (by decide)) (gE_4 (G := G) hk) rfl 3 (by decide) (hts _ k_662) (fun _ h9 => h9) (congrArg (fun z9 => some (va_rf z9)) hwo) d_Checker_checkLink_64 ?_
      refine lv_aload_n hx hb d_Checker_checkLink_67 rfl (lv_at hl 3 rfl) ?_
      refine pq_get (D := (dC, dI)) (ci := 12) (v := .ref s0) (C := R_Link) (T := F_Link) (N := 4) hx hb hts i_Link hown hK hP (gL_m hL hk (by decide)) (gE_4 (G := G) hk) rfl 1 (by decide) (hts _ k_657) (fun _ h9 => h9) (congrArg (fun z9 => some (va_rf z9)) hr1) d_Checker_checkLink_68 ?_
      refine lv_aload_n hx hb d_Checker_checkLink_71 rfl (lv_at hl 0 rfl) ?_
      refine lv_aload_n hx hb d_Checker_checkLink_72 rfl (lv_at hl 1 rfl) ?_
      refine pq_get (D := (dC, dI)) (ci := 8) (v := .int (nI (G.2.1 p0 2))) (C := R_Wire) (T := F_Wire) (N := 7) hx hb hts i_Wire hown hK hP (gL_m hL hp1 (by decide)) (gE_2 (G := G) hp1) rfl 2 (by decide) (hts _ k_222) (fun _ h9 => h9) (congrArg (fun z9 => some (Value.int (nI z9))) rfl) d_Checker_checkLink_73 ?_
      refine wd_i (cx := []) (wr := [(qx, .inr (5, [.ref qc, .ref qf, .ref na, .ref df, .ref qi])), (qf, .inr (2, [v0, v1]))]) (pl := va_pl L (gE cO G)) (va_runV (As := [.int (nI (G.2.1 p0 2))]) (rest := [.ref s0, va_rf none, .ref qx]) ⟨hx, hb, hml, hown, hts⟩ (p_Side_width2 l dC dI cB cI cL cZ cC cO s1 (G.2.1 p0 2) t0 _ hL hs1 ho1 hlo1 hhi1 (fits_le c_3)) (cwV 1 hts (good_V k_714 k_715 k_716 k_21 k_717) rfl rfl rfl (by decide +kernel) ⟨Nat.le_of_ble_eq_true rfl, Nat.le_of_ble_eq_true rfl⟩) (wd_preV (ci := 11) (r := (R_Side, F_Side, 5)) hK hP hD hS hA hF hE [] (by decide) rfl rfl (pq_at (gL_m hL hs1 (by decide)) (gE_3 (G := G) hs1))) rfl rfl hl.1 rfl (lv_room (Nat.le_of_ble_eq_true rfl)) d_Checker_checkLink_76 ⟨Nat.le_of_ble_eq_true rfl, Nat.le_of_ble_eq_true rfl⟩) hP hD hS hA [] [0, 1] rfl rfl (by decide) (by decide) (fun r_15 _ H locs w_14 hP hD hS => ?_)
      have hP : va_P (dC, dI) cl ([(qx, .inr (5, [.ref qc, .ref qf, .ref na, .ref df, .ref qi])), (qf, .inr (2, [v0, v1]))] ++ va_pl L (gE cO G)) H := hP
      have hD : va_D A ([(qx, .inr (5, [.ref qc, .ref qf, .ref na, .ref df, .ref qi])), (qf, .inr (2, [v0, v1]))] ++ va_pl L (gE cO G)) := hD
      subst w_14
      refine wd_i (cx := [(qx, .inr (5, [.ref qc, .ref qf, .ref na, .ref df, .ref qi])), (qf, .inr (2, [v0, v1]))]) (wr := []) (pl := va_pl L (gE cO G)) (va_runV (As := [va_rf none, .ref s0, .int (nI (m_bits (G.2.2.1 s1 2) (G.2.1 s1 3) (G.2.1 s1 4) (G.2.1 p0 2)))]) (rest := []) ⟨hx, hb, hml, hown, hts⟩ (p_Checker_checkTarget l dC dI cB cI cL cZ cC cO qx qc qf na df qi v0 v1 none s0 (m_bits (G.2.2.1 s1 2) (G.2.1 s1 3) (G.2.1 s1 4) (G.2.1 p0 2)) nm t0 _ hL hs ho hlo hhi hsn hnm hn0 (by omega) hW) (cwV 3 hts (good_V k_735 k_737 s_Checker_checkTarget k_8 k_738) rfl rfl rfl (by decide +kernel) ⟨Nat.le_of_ble_eq_true rfl, Nat.le_of_ble_eq_true rfl⟩) (wd_preV (ci := 5) (r := (R_Checker, F_Checker, 5)) hK hP hD hS hA hF hE [0, 1] (by decide) rfl rfl ⟨0, rfl⟩) rfl rfl hl.1 rfl (lv_room (Nat.le_of_ble_eq_true rfl)) d_Checker_checkLink_79 ⟨Nat.le_of_ble_eq_true rfl, Nat.le_of_ble_eq_true rfl⟩) hP hD hS hA [0, 1] [] rfl rfl (by decide) (by decide) (fun r_17 u H locs w_16 hP hD hS => ?_)
      have hP : va_P (dC, dI) cl ([(qx, .inr (5, [.ref qc, .ref qf, .ref na, .ref df, .ref qi])), (qf, .inr (2, [u.1.1, u.1.2]))] ++ va_pl L (gE cO u.2)) H := hP
      have hD : va_D A ([(qx, .inr (5, [.ref qc, .ref qf, .ref na, .ref df, .ref qi])), (qf, .inr (2, [u.1.1, u.1.2]))] ++ va_pl L (gE cO u.2)) := hD
      obtain ⟨r_17e, hz2, hz3⟩ := w_16
      subst r_17e
      have hz1 := rfl (a := (0 : Nat))
      have hX : (ckl G (some p0) none s1 s0 (G.2.2.1 nl 2) (G.2.2.1 nm 2)) = (ckt G none s0 (m_bits (G.2.2.1 s1 2) (G.2.1 s1 3) (G.2.1 s1 4) (G.2.1 p0 2)) (G.2.2.1 nm 2)) := by unfold ckl; show (if _ then _ else _) = _; rw [if_pos c_3, if_pos c_4]
      exact wr_z (x := decide ((ckt G none s0 (m_bits (G.2.2.1 s1 2) (G.2.1 s1 3) (G.2.1 s1 4) (G.2.1 p0 2)) (G.2.2.1 nm 2)).1 = none)) hx hb hr hlocks ((u.1.1, u.1.2), u.2) ⟨by rw [hX], by rw [hX]; exact hz2, by rw [hX]; exact hz3⟩ hK hP hD hS d_Checker_checkLink_82
  · refine lv_aload_n hx hb d_Checker_checkLink_41 rfl (lv_at hl 2 rfl) ?_
    refine va_get (D := (dC, dI)) (ci := 5) (v := .ref qf) (C := R_Checker) (T := F_Checker) (N := 5) hx hb hts i_Checker hown hK hP 0 rfl rfl 1 (by decide) (hts _ k_352) (fun _ h9 => h9) rfl d_Checker_checkLink_42 ?_
    refine lv_iconst (v := nI 5) hx hb d_Checker_checkLink_45 (by decide) ?_
    refine lv_aload_n hx hb d_Checker_checkLink_46 rfl (lv_at hl 0 rfl) ?_
    refine pq_get (D := (dC, dI)) (ci := 11) (v := .int (oI (G.2.2.1 s1 2))) (C := R_Side) (T := F_Side) (N := 5) hx hb hts i_Side hown hK hP (gL_m hL hs1 (by decide)) (gE_3 (G := G) hs1) rfl 2 (by decide) (hts _ k_620) (fun _ h9 => h9) rfl d_Checker_checkLink_47 ?_
    refine we_i (cx := [(qf, .inr (2, [v0, v1]))]) (wr := [(qx, .inr (5, [.ref qc, .ref qf, .ref na, .ref df, .ref qi]))]) (pl := va_pl L (gE cO G)) (va_runV (As := [.int (nI 5), .int (oI (G.2.2.1 s1 2))]) (rest := []) ⟨hx, hb, hml, hown, hts⟩ (c_Fault_note l dC dI cB cI cL cZ cC cO qf (nI 5) (oI (G.2.2.1 s1 2)) _ ) (cwV 2 hts (good_V k_695 k_534 k_535 k_3 k_536) rfl rfl rfl (by decide +kernel) ⟨Nat.le_of_ble_eq_true rfl, Nat.le_of_ble_eq_true rfl⟩) (wc_preV (k0 := 1) (ci := 2) (r := (R_Fault, F_Fault, 2)) hK hP hD hS hA hF [1] (by decide) rfl rfl rfl) rfl rfl hl.1 rfl (lv_room (Nat.le_of_ble_eq_true rfl)) d_Checker_checkLink_50 ⟨Nat.le_of_ble_eq_true rfl, Nat.le_of_ble_eq_true rfl⟩) hP hD hS hA [1] [0] rfl rfl (by decide) (by decide) (fun r_19 _ H locs w_18 hP hD hS => ?_)
    have hP : va_P (dC, dI) cl ([(qx, .inr (5, [.ref qc, .ref qf, .ref na, .ref df, .ref qi])), (qf, .inr (2, [.int (nI 5), .int (oI (G.2.2.1 s1 2))]))] ++ va_pl L (gE cO G)) H := hP
    have hD : va_D A ([(qx, .inr (5, [.ref qc, .ref qf, .ref na, .ref df, .ref qi])), (qf, .inr (2, [.int (nI 5), .int (oI (G.2.2.1 s1 2))]))] ++ va_pl L (gE cO G)) := hD
    subst w_18
    have hX : (ckl G (some p0) none s1 s0 (G.2.2.1 nl 2) (G.2.2.1 nm 2)) = (some (5, G.2.2.1 s1 2), G) := by unfold ckl; show (if _ then _ else _) = _; rw [if_neg (by rw [c_3]; decide)]
    exact wr_z (x := false) hx hb hr hlocks ((.int (nI 5), .int (oI (G.2.2.1 s1 2))), G) ⟨by rw [hX]; rfl, by rw [hX]; rfl, by rw [hX]⟩ hK hP hD hS d_Checker_checkLink_53
set_option maxHeartbeats 4000000 in
set_option maxRecDepth 100000 in
/-- checkLink(link) -/
theorem p_Checker_checkLinkSS (l : Launch) (dC : Nat → ClassId) (dI : Nat → Nat → Nat) (cB cI cL cZ cC cO : ClassId) (qx qc qf na df qi : Nat) (v0 v1 : Value) {L : List Nat} {G : PG} (w0 : Nat) (k0 p0 s1 s0 nl nm : Nat) (t0 sz : Nat) (hL : gL L G) (hk : G.1 k0 = 4) (hl1 : G.2.2.2.2.2 k0 0 = some s1) (hr1 : G.2.2.2.2.2 k0 1 = some s0) (hwo : G.2.2.2.2.2 k0 3 = (some w0)) (hs1 : G.1 s1 = 3) (ho1 : ∀ z, G.2.2.1 s1 2 = some z → z < 2 ^ 31) (hlo1 : G.2.1 s1 3 < 100) (hhi1 : G.2.1 s1 4 < 100) (hn01 : G.2.2.1 s1 2 = none → G.2.1 s1 3 = 0 ∧ G.2.1 s1 4 = 0) (hsl : G.2.2.2.2.2 s1 0 = some nl) (hnl : G.1 nl = 1) (hs : G.1 s0 = 3) (ho : ∀ z, G.2.2.1 s0 2 = some z → z < 2 ^ 31) (hlo : G.2.1 s0 3 < 100) (hhi : G.2.1 s0 4 < 100) (hsn : G.2.2.2.2.2 s0 0 = some nm) (hnm : G.1 nm = 1) (hn0 : G.2.2.1 s0 2 = none → G.2.1 s0 3 = 0 ∧ G.2.1 s0 4 = 0) (hW : ∀ w, (some w0) = some w → G.1 w = 2 ∧ G.2.1 w 1 < 3 ∧ G.2.1 w 2 < 100 ∧ G.2.1 w 2 ≤ 16 ∧ G.2.1 w 5 < 65536) (hpl : ∀ z, (G.2.2.1 nm 2) = some z → z < 2 ^ 31) (hpo : G.2.2.2.2.2 k0 2 = some p0) (hp1 : G.1 p0 = 2) (hp2 : G.2.1 p0 1 < 3) (hp3 : G.2.1 p0 2 ≤ 16) (hp4 : G.2.1 p0 5 < 65536) : Met l y_Checker_checkLink w_Checker_checkLink ({ frames := 4, cells := 0, slots := 0, locals := 220 }) (va_Pc [.ref qx, .ref k0] (wB2 (dC, dI) cl [(cB, .byte), (cI, .int), (cL, .long), (cZ, .boolean), (cC, .char), (cO, .object "java/lang/Object")] sz t0 ([(qx, .inr (5, [.ref qc, .ref qf, .ref na, .ref df, .ref qi])), (qf, .inr (2, [v0, v1]))] ++ va_pl L (gE cO G)))) (va_Qi (fun (r : Int32) (u : (Value × Value) × PG) => r = bI (decide ((ckl G (some p0) (some w0) s1 s0 (G.2.2.1 nl 2) (G.2.2.1 nm 2)).1 = none)) ∧ u.1 = fpr (ckl G (some p0) (some w0) s1 s0 (G.2.2.1 nl 2) (G.2.2.1 nm 2)).1 v0 v1 ∧ u.2 = (ckl G (some p0) (some w0) s1 s0 (G.2.2.1 nl 2) (G.2.2.1 nm 2)).2) (fun u t => wA (dC, dI) cl [(cB, .byte), (cI, .int), (cL, .long), (cZ, .boolean), (cC, .char), (cO, .object "java/lang/Object")] (va_A ([(qx, .inr (5, [.ref qc, .ref qf, .ref na, .ref df, .ref qi])), (qf, .inr (2, [v0, v1]))] ++ va_pl L (gE cO G)) sz) ([(qx, .inr (5, [.ref qc, .ref qf, .ref na, .ref df, .ref qi])), (qf, .inr (2, [u.1.1, u.1.2]))] ++ va_pl L (gE cO u.2)) t) (va_A ([(qx, .inr (5, [.ref qc, .ref qf, .ref na, .ref df, .ref qi])), (qf, .inr (2, [v0, v1]))] ++ va_pl L (gE cO G)) sz)) 0 0 (va_A ([(qx, .inr (5, [.ref qc, .ref qf, .ref na, .ref df, .ref qi])), (qf, .inr (2, [v0, v1]))] ++ va_pl L (gE cO G)) sz) := by
  refine Met.ofW (cc := b_Checker_checkLink) (maxL := 5) (ret := (some ClassFile.FieldType.boolean)) (by decide) rfl ?_
  intro p e s m args below meth c s₁ B hml hv
  obtain ⟨rfl, ⟨hsz, hP, hK, hD0, hF⟩, hE⟩ := hv
  have hx := B.exec
  have hb := B.bytes
  have hr := B.returns
  have hts := atoms_spec (ws := w_Checker_checkLink) B.pre
  have hts : ∀ w ∈ tb, w.before _ s = true := fun w h => hts w (List.mem_cons_of_mem _ h)
  have hown : s.vm.findClass R_Checker = some m.cls := findClass_of_methodNamed B.named
  have hlocks := B.notSynchronized
  subst hsz
  have hD := hD0.self (sz := s.heap.size)
  generalize hAe : va_A ([(qx, .inr (5, [.ref qc, .ref qf, .ref na, .ref df, .ref qi])), (qf, .inr (2, [v0, v1]))] ++ va_pl L (gE cO G)) s.heap.size = A at hD hF hE ⊢
  have hA : ∀ q : Nat, s.heap.size ≤ q → A q := fun q h => by rw [← hAe]; exact Or.inr h
  have hS : va_S A s.heap s.heap [] := va_S.rf
  have hP : va_P (dC, dI) cl ([(qx, .inr (5, [.ref qc, .ref qf, .ref na, .ref df, .ref qi])), (qf, .inr (2, [v0, v1]))] ++ va_pl L (gE cO G)) s.heap := hP
  have hl := lv_entry ([.ref qx, .ref k0]) (n := 5) (Nat.le_of_ble_eq_true rfl)
  rw [lg_entry_eq]
  generalize (lg_sl ([.ref qx, .ref k0]) ++ List.replicate (5 - (lg_sl ([.ref qx, .ref k0])).length) Slot.unset).toArray = ls at hl ⊢
  have hl : lv_has ls 5 [(0, .ref qx), (1, .ref k0)] := hl
  refine lv_aload_n hx hb d_Checker_checkLink_0 rfl (lv_at hl 1 rfl) ?_
  refine pq_get (D := (dC, dI)) (ci := 12) (v := .ref p0) (C := R_Link) (T := F_Link) (N := 4) hx hb hts i_Link hown hK hP (gL_m hL hk (by decide)) (gE_4 (G := G) hk) rfl 2 (by decide) (hts _ k_659) (fun _ h9 => h9) (congrArg (fun z9 => some (va_rf z9)) hpo) d_Checker_checkLink_1 ?_
  refine lv_astore_n (lv' := [(2, .ref p0), (0, .ref qx), (1, .ref k0)]) hx hb d_Checker_checkLink_4 rfl hl (by decide) rfl (fun ls hl => ?_)
  refine lv_aload_n hx hb d_Checker_checkLink_5 rfl (lv_at hl 2 rfl) ?_
  refine pq_get (D := (dC, dI)) (ci := 12) (v := .ref s1) (C := R_Link) (T := F_Link) (N := 4) hx hb hts i_Link hown hK hP (gL_m hL hk (by decide)) (gE_4 (G := G) hk) rfl 0 (by decide) (hts _ k_653) (fun _ h9 => h9) (congrArg (fun z9 => some (va_rf z9)) hl1) d_Checker_checkLink_6 ?_
  refine lv_astore_n (lv' := [(3, .ref s1), (2, .ref p0), (0, .ref qx), (1, .ref k0)]) hx hb d_Checker_checkLink_9 rfl hl (by decide) rfl (fun ls hl => ?_)
  refine lv_aload_n hx hb d_Checker_checkLink_10 rfl (lv_at hl 1 rfl) ?_
  refine lv_ifnonnull (tgt := 30) hx hb d_Checker_checkLink_11 (by decide) ?_
  refine lv_aload_n hx hb d_Checker_checkLink_30 rfl (lv_at hl 0 rfl) ?_
  refine lv_aload_n hx hb d_Checker_checkLink_31 rfl (lv_at hl 1 rfl) ?_
  refine pq_get (D := (dC, dI)) (ci := 8) (v := .int (nI (G.2.1 p0 2))) (C := R_Wire) (T := F_Wire) (N := 7) hx hb hts i_Wire hown hK hP (gL_m hL hp1 (by decide)) (gE_2 (G := G) hp1) rfl 2 (by decide) (hts _ k_222) (fun _ h9 => h9) (congrArg (fun z9 => some (Value.int (nI z9))) rfl) d_Checker_checkLink_32 ?_
  refine wd_i (cx := []) (wr := [(qx, .inr (5, [.ref qc, .ref qf, .ref na, .ref df, .ref qi])), (qf, .inr (2, [v0, v1]))]) (pl := va_pl L (gE cO G)) (va_runV (As := [.int (nI (G.2.1 p0 2))]) (rest := []) ⟨hx, hb, hml, hown, hts⟩ (p_Side_fits l dC dI cB cI cL cZ cC cO s1 (G.2.1 p0 2) t0 _ hL hs1 ho1 hlo1 hhi1 (by omega)) (cwV 1 hts (good_V k_706 k_707 k_708 k_21 k_709) rfl rfl rfl (by decide +kernel) ⟨Nat.le_of_ble_eq_true rfl, Nat.le_of_ble_eq_true rfl⟩) (wd_preV (ci := 11) (r := (R_Side, F_Side, 5)) hK hP hD hS hA hF hE [] (by decide) rfl rfl (pq_at (gL_m hL hs1 (by decide)) (gE_3 (G := G) hs1))) rfl rfl hl.1 rfl (lv_room (Nat.le_of_ble_eq_true rfl)) d_Checker_checkLink_35 ⟨Nat.le_of_ble_eq_true rfl, Nat.le_of_ble_eq_true rfl⟩) hP hD hS hA [] [0, 1] rfl rfl (by decide) (by decide) (fun r_2 _ H locs w_1 hP hD hS => ?_)
  have hP : va_P (dC, dI) cl ([(qx, .inr (5, [.ref qc, .ref qf, .ref na, .ref df, .ref qi])), (qf, .inr (2, [v0, v1]))] ++ va_pl L (gE cO G)) H := hP
  have hD : va_D A ([(qx, .inr (5, [.ref qc, .ref qf, .ref na, .ref df, .ref qi])), (qf, .inr (2, [v0, v1]))] ++ va_pl L (gE cO G)) := hD
  subst w_1
  refine nv_bif_ne (tgt := 54) hx hb d_Checker_checkLink_38 (by decide) (fun c_3 => ?_) (fun c_3 => ?_)
  · have hbl : m_bits (G.2.2.1 s1 2) (G.2.1 s1 3) (G.2.1 s1 4) (G.2.1 p0 2) < 200 := by unfold m_bits; split <;> omega
    refine lv_aload_n hx hb d_Checker_checkLink_54 rfl (lv_at hl 1 rfl) ?_
    refine pq_get (D := (dC, dI)) (ci := 8) (v := .int (nI (G.2.1 p0 1))) (C := R_Wire) (T := F_Wire) (N := 7) hx hb hts i_Wire hown hK hP (gL_m hL hp1 (by decide)) (gE_2 (G := G) hp1) rfl 1 (by decide) (hts _ k_219) (fun _ h9 => h9) rfl d_Checker_checkLink_55 ?_
    refine lv_iconst (v := nI 1) hx hb d_Checker_checkLink_58 (by decide) ?_
    refine nv_icmp_ne (tgt := 83) hx hb (by omega) (by omega) d_Checker_checkLink_59 (by decide) (fun c_4 => ?_) (fun c_4 => ?_)
    · refine lv_aload_n hx hb d_Checker_checkLink_83 rfl (lv_at hl 0 rfl) ?_
      refine lv_aload_n hx hb d_Checker_checkLink_84 rfl (lv_at hl 1 rfl) ?_
      refine pq_get (D := (dC, dI)) (ci := 8) (v := .int (nI (G.2.1 p0 2))) (C := R_Wire) (T := F_Wire) (N := 7) hx hb hts i_Wire hown hK hP (gL_m hL hp1 (by decide)) (gE_2 (G := G) hp1) rfl 2 (by decide) (hts _ k_222) (fun _ h9 => h9) (congrArg (fun z9 => some (Value.int (nI z9))) rfl) d_Checker_checkLink_85 ?_
      obtain ⟨hm1, hm2⟩ := mask_f (G := G) (w := p0) (s := s1) c_3 hp3 hn01
      have hm3 := m_set_lt2 hm2
      refine wd_i (cx := []) (wr := [(qx, .inr (5, [.ref qc, .ref qf, .ref na, .ref df, .ref qi])), (qf, .inr (2, [v0, v1]))]) (pl := va_pl L (gE cO G)) (va_runV (As := [.int (nI (G.2.1 p0 2))]) (rest := []) ⟨hx, hb, hml, hown, hts⟩ (p_Side_bitMask2 l dC dI cB cI cL cZ cC cO s1 (G.2.1 p0 2) t0 _ hL hs1 ho1 hlo1 hhi1 (fits_le c_3)) (cwV 1 hts (good_V k_743 k_744 k_745 k_21 k_746) rfl rfl rfl (by decide +kernel) ⟨Nat.le_of_ble_eq_true rfl, Nat.le_of_ble_eq_true rfl⟩) (wd_preV (ci := 11) (r := (R_Side, F_Side, 5)) hK hP hD hS hA hF hE [] (by decide) rfl rfl (pq_at (gL_m hL hs1 (by decide)) (gE_3 (G := G) hs1))) rfl rfl hl.1 rfl (lv_room (Nat.le_of_ble_eq_true rfl)) d_Checker_checkLink_88 ⟨Nat.le_of_ble_eq_true rfl, Nat.le_of_ble_eq_true rfl⟩) hP hD hS hA [] [0, 1] rfl rfl (by decide) (by decide) (fun r_6 _ H locs w_5 hP hD hS => ?_)
      have hP : va_P (dC, dI) cl ([(qx, .inr (5, [.ref qc, .ref qf, .ref na, .ref df, .ref qi])), (qf, .inr (2, [v0, v1]))] ++ va_pl L (gE cO G)) H := hP
      have hD : va_D A ([(qx, .inr (5, [.ref qc, .ref qf, .ref na, .ref df, .ref qi])), (qf, .inr (2, [v0, v1]))] ++ va_pl L (gE cO G)) := hD
      rw [hm1] at w_5
      subst w_5
      have hand : G.2.1 p0 5 &&& m_set (m_bits (G.2.2.1 s1 2) (G.2.1 s1 3) (G.2.1 s1 4) (G.2.1 p0 2)) (G.2.1 s1 3) ≤ G.2.1 p0 5 := Nat.and_le_left
      refine lv_istore (lv' := [(4, .int (nI (m_set (m_bits (G.2.2.1 s1 2) (G.2.1 s1 3) (G.2.1 s1 4) (G.2.1 p0 2)) (G.2.1 s1 3)))), (3, .ref s1), (2, .ref p0), (0, .ref qx), (1, .ref k0)]) hx hb d_Checker_checkLink_91 hl (by decide) rfl (fun ls hl => ?_)
      refine lv_aload_n hx hb d_Checker_checkLink_93 rfl (lv_at hl 2 rfl) ?_
      refine pq_get (D := (dC, dI)) (ci := 8) (v := .int (nI (G.2.1 p0 5))) (C := R_Wire) (T := F_Wire) (N := 7) hx hb hts i_Wire hown hK hP (gL_m hL hp1 (by decide)) (gE_2 (G := G) hp1) rfl 5 (by decide) (hts _ k_232) (fun _ h9 => h9) (congrArg (fun z9 => some (Value.int (nI z9))) rfl) d_Checker_checkLink_94 ?_
      refine lv_iload hx hb d_Checker_checkLink_97 (lv_at hl 0 rfl) ?_
      refine nv_iand hx hb d_Checker_checkLink_99 ?_
      refine nv_if_eq (tgt := 119) hx hb (by omega) d_Checker_checkLink_100 (by decide) (fun c_7 => ?_) (fun c_7 => ?_)
      · refine lv_aload_n hx hb d_Checker_checkLink_119 rfl (lv_at hl 2 rfl) ?_
        refine lv_dup hx hb d_Checker_checkLink_120 rfl ?_
        refine pq_get (D := (dC, dI)) (ci := 8) (v := .int (nI (G.2.1 p0 5))) (C := R_Wire) (T := F_Wire) (N := 7) hx hb hts i_Wire hown hK hP (gL_m hL hp1 (by decide)) (gE_2 (G := G) hp1) rfl 5 (by decide) (hts _ k_232) (fun _ h9 => h9) (congrArg (fun z9 => some (Value.int (nI z9))) rfl) d_Checker_checkLink_121 ?_
        refine lv_iload hx hb d_Checker_checkLink_124 (lv_at hl 0 rfl) ?_
        refine nv_ior hx hb d_Checker_checkLink_126 ?_
        refine pq_put (D := (dC, dI)) (ci := 8) (v := .int (nI ((G.2.1 p0 5) ||| (m_set (m_bits (G.2.2.1 s1 2) (G.2.1 s1 3) (G.2.1 s1 4) (G.2.1 p0 2)) (G.2.1 s1 3))))) (ty := .int) (C := R_Wire) (T := F_Wire) (N := 7) hx hb hts i_Wire t_Wire t_Wire_ok n_Wire hown hK hP hD hS (gL_m hL hp1 (by decide)) (gE_2 (G := G) hp1) rfl 5 (by decide) (hts _ k_232) (fun _ h9 => h9) rfl (by decide +kernel) rfl rfl (Nat.le_of_ble_eq_true rfl) (uE_2_5 (G := G) (v := (G.2.1 p0 5) ||| (m_set (m_bits (G.2.2.1 s1 2) (G.2.1 s1 3) (G.2.1 s1 4) (G.2.1 p0 2)) (G.2.1 s1 3))) hp1) d_Checker_checkLink_127 (fun H locs hP hD hS => ?_)
        have hP : va_P (dC, dI) cl ([(qx, .inr (5, [.ref qc, .ref qf, .ref na, .ref df, .ref qi])), (qf, .inr (2, [v0, v1]))] ++ va_pl L (gE cO (gN G p0 5 ((G.2.1 p0 5) ||| (m_set (m_bits (G.2.2.1 s1 2) (G.2.1 s1 3) (G.2.1 s1 4) (G.2.1 p0 2)) (G.2.1 s1 3)))))) H := hP
        have hD : va_D A ([(qx, .inr (5, [.ref qc, .ref qf, .ref na, .ref df, .ref qi])), (qf, .inr (2, [v0, v1]))] ++ va_pl L (gE cO (gN G p0 5 ((G.2.1 p0 5) ||| (m_set (m_bits (G.2.2.1 s1 2) (G.2.1 s1 3) (G.2.1 s1 4) (G.2.1 p0 2)) (G.2.1 s1 3)))))) := hD
        refine lv_aload_n hx hb d_Checker_checkLink_130 rfl (lv_at hl 3 rfl) ?_
        refine lv_aload_n hx hb d_Checker_checkLink_131 rfl (lv_at hl 4 rfl) ?_
        refine pq_get (D := (dC, dI)) (ci := 12) (v := va_rf (some w0)) (C := R_Link) (T := F_Link) (N := 4) hx hb hts i_Link hown hK hP (gL_m hL hk (by decide)) (gE_4 (G := (gN G p0 5 ((G.2.1 p0 5) ||| (m_set (m_bits (G.2.2.1 s1 2) (G.2.1 s1 3) (G.2.1 s1 4) (G.2.1 p0 2)) (G.2.1 s1 3))))) hk) rfl 3 (by decide) (hts _ k_662) (fun _ h9 => h9) (congrArg (fun z9 => some (va_rf z9)) hwo) d_Checker_checkLink_132 ?_
        refine lv_aload_n hx hb d_Checker_checkLink_135 rfl (lv_at hl 4 rfl) ?_
        refine pq_get (D := (dC, dI)) (ci := 12) (v := .ref s0) (C := R_Link) (T := F_Link) (N := 4) hx hb hts i_Link hown hK hP (gL_m hL hk (by decide)) (gE_4 (G := (gN G p0 5 ((G.2.1 p0 5) ||| (m_set (m_bits (G.2.2.1 s1 2) (G.2.1 s1 3) (G.2.1 s1 4) (G.2.1 p0 2)) (G.2.1 s1 3))))) hk) rfl 1 (by decide) (hts _ k_657) (fun _ h9 => h9) (congrArg (fun z9 => some (va_rf z9)) hr1) d_Checker_checkLink_136 ?_
        refine lv_aload_n hx hb d_Checker_checkLink_139 rfl (lv_at hl 1 rfl) ?_
        refine lv_aload_n hx hb d_Checker_checkLink_140 rfl (lv_at hl 2 rfl) ?_
        refine pq_get (D := (dC, dI)) (ci := 8) (v := .int (nI (G.2.1 p0 2))) (C := R_Wire) (T := F_Wire) (N := 7) hx hb hts i_Wire hown hK hP (gL_m hL hp1 (by decide)) (gE_2 (G := (gN G p0 5 ((G.2.1 p0 5) ||| (m_set (m_bits (G.2.2.1 s1 2) (G.2.1 s1 3) (G.2.1 s1 4) (G.2.1 p0 2)) (G.2.1 s1 3))))) hp1) rfl 2 (by decide) (hts _ k_222) (fun _ h9 => h9) (congrArg (fun z9 => some (Value.int (nI z9))) ((up2_k _ _ _ _ (by decide)).trans rfl)) d_Checker_checkLink_141 ?_
        refine wd_i (cx := []) (wr := [(qx, .inr (5, [.ref qc, .ref qf, .ref na, .ref df, .ref qi])), (qf, .inr (2, [v0, v1]))]) (pl := va_pl L (gE cO (gN G p0 5 ((G.2.1 p0 5) ||| (m_set (m_bits (G.2.2.1 s1 2) (G.2.1 s1 3) (G.2.1 s1 4) (G.2.1 p0 2)) (G.2.1 s1 3)))))) (va_runV (As := [.int (nI (G.2.1 p0 2))]) (rest := [.ref s0, va_rf (some w0), .ref qx]) ⟨hx, hb, hml, hown, hts⟩ (p_Side_width2 l dC dI cB cI cL cZ cC cO (G := gN G p0 5 ((G.2.1 p0 5) ||| (m_set (m_bits (G.2.2.1 s1 2) (G.2.1 s1 3) (G.2.1 s1 4) (G.2.1 p0 2)) (G.2.1 s1 3)))) s1 (G.2.1 p0 2) t0 _ hL hs1 ho1 (by show up2 _ _ _ _ _ _ < _; rw [up2_k _ _ _ _ (by decide)]; exact hlo1) (by show up2 _ _ _ _ _ _ < _; rw [up2_k _ _ _ _ (by decide)]; exact hhi1) (by show _ → up2 _ _ _ _ _ _ ≤ up2 _ _ _ _ _ _; rw [up2_k _ _ _ _ (by decide), up2_k _ _ _ _ (by decide)]; exact fits_le c_3)) (cwV 1 hts (good_V k_714 k_715 k_716 k_21 k_717) rfl rfl rfl (by decide +kernel) ⟨Nat.le_of_ble_eq_true rfl, Nat.le_of_ble_eq_true rfl⟩) (wd_preV (ci := 11) (r := (R_Side, F_Side, 5)) hK hP hD hS hA hF hE [] (by decide) rfl rfl (pq_at (gL_m hL hs1 (by decide)) (gE_3 (G := (gN G p0 5 ((G.2.1 p0 5) ||| (m_set (m_bits (G.2.2.1 s1 2) (G.2.1 s1 3) (G.2.1 s1 4) (G.2.1 p0 2)) (G.2.1 s1 3))))) hs1))) rfl rfl hl.1 rfl (lv_room (Nat.le_of_ble_eq_true rfl)) d_Checker_checkLink_144 ⟨Nat.le_of_ble_eq_true rfl, Nat.le_of_ble_eq_true rfl⟩) hP hD hS hA [] [0, 1] rfl rfl (by decide) (by decide) (fun r_9 _ H locs w_8 hP hD hS => ?_)
        have hP : va_P (dC, dI) cl ([(qx, .inr (5, [.ref qc, .ref qf, .ref na, .ref df, .ref qi])), (qf, .inr (2, [v0, v1]))] ++ va_pl L (gE cO (gN G p0 5 ((G.2.1 p0 5) ||| (m_set (m_bits (G.2.2.1 s1 2) (G.2.1 s1 3) (G.2.1 s1 4) (G.2.1 p0 2)) (G.2.1 s1 3)))))) H := hP
        have hD : va_D A ([(qx, .inr (5, [.ref qc, .ref qf, .ref na, .ref df, .ref qi])), (qf, .inr (2, [v0, v1]))] ++ va_pl L (gE cO (gN G p0 5 ((G.2.1 p0 5) ||| (m_set (m_bits (G.2.2.1 s1 2) (G.2.1 s1 3) (G.2.1 s1 4) (G.2.1 p0 2)) (G.2.1 s1 3)))))) := hD
        have hwz : r_9 = nI (m_bits (G.2.2.1 s1 2) (G.2.1 s1 3) (G.2.1 s1 4) (G.2.1 p0 2)) := by rw [w_8]; show nI (m_bits _ (up2 _ _ _ _ _ _) (up2 _ _ _ _ _ _) _) = _; rw [up2_k _ _ _ _ (by decide), up2_k _ _ _ _ (by decide)]
        subst hwz
        refine wd_i (cx := [(qx, .inr (5, [.ref qc, .ref qf, .ref na, .ref df, .ref qi])), (qf, .inr (2, [v0, v1]))]) (wr := []) (pl := va_pl L (gE cO (gN G p0 5 ((G.2.1 p0 5) ||| (m_set (m_bits (G.2.2.1 s1 2) (G.2.1 s1 3) (G.2.1 s1 4) (G.2.1 p0 2)) (G.2.1 s1 3)))))) (va_runV (As := [va_rf (some w0), .ref s0, .int (nI (m_bits (G.2.2.1 s1 2) (G.2.1 s1 3) (G.2.1 s1 4) (G.2.1 p0 2)))]) (rest := []) ⟨hx, hb, hml, hown, hts⟩ (p_Checker_checkSource l dC dI cB cI cL cZ cC cO qx qc qf na df qi v0 v1 (G := gN G p0 5 ((G.2.1 p0 5) ||| (m_set (m_bits (G.2.2.1 s1 2) (G.2.1 s1 3) (G.2.1 s1 4) (G.2.1 p0 2)) (G.2.1 s1 3)))) (some w0) s0 (m_bits (G.2.2.1 s1 2) (G.2.1 s1 3) (G.2.1 s1 4) (G.2.1 p0 2)) nm t0 _ hL hs ho (by show up2 _ _ _ _ _ _ < _; rw [up2_k _ _ _ _ (by decide)]; exact hlo) (by show up2 _ _ _ _ _ _ < _; rw [up2_k _ _ _ _ (by decide)]; exact hhi) hsn hnm (by omega) (fun w9 e9 => ⟨(hW w9 e9).1, by show up2 _ _ _ _ _ _ < _; rw [up2_k _ _ _ _ (by decide)]; exact (hW w9 e9).2.1, by show up2 _ _ _ _ _ _ < _; rw [up2_k _ _ _ _ (by decide)]; exact (hW w9 e9).2.2.1⟩) hpl) (cwV 3 hts (good_V k_748 k_750 s_Checker_checkSource k_8 k_751) rfl rfl rfl (by decide +kernel) ⟨Nat.le_of_ble_eq_true rfl, Nat.le_of_ble_eq_true rfl⟩) (wd_preV (ci := 5) (r := (R_Checker, F_Checker, 5)) hK hP hD hS hA hF hE [0, 1] (by decide) rfl rfl ⟨0, rfl⟩) rfl rfl hl.1 rfl (lv_room (Nat.le_of_ble_eq_true rfl)) d_Checker_checkLink_147 ⟨Nat.le_of_ble_eq_true rfl, Nat.le_of_ble_eq_true rfl⟩) hP hD hS hA [0, 1] [] rfl rfl (by decide) (by decide) (fun r_11 u H locs w_10 hP hD hS => ?_)
        have hP : va_P (dC, dI) cl ([(qx, .inr (5, [.ref qc, .ref qf, .ref na, .ref df, .ref qi])), (qf, .inr (2, [u.1, u.2]))] ++ va_pl L (gE cO (gN G p0 5 ((G.2.1 p0 5) ||| (m_set (m_bits (G.2.2.1 s1 2) (G.2.1 s1 3) (G.2.1 s1 4) (G.2.1 p0 2)) (G.2.1 s1 3)))))) H := hP
        have hD : va_D A ([(qx, .inr (5, [.ref qc, .ref qf, .ref na, .ref df, .ref qi])), (qf, .inr (2, [u.1, u.2]))] ++ va_pl L (gE cO (gN G p0 5 ((G.2.1 p0 5) ||| (m_set (m_bits (G.2.2.1 s1 2) (G.2.1 s1 3) (G.2.1 s1 4) (G.2.1 p0 2)) (G.2.1 s1 3)))))) := hD
        obtain ⟨r_11e, hz2⟩ := w_10
        subst r_11e
        have hz1 := rfl (a := (0 : Nat))
        have hz3 := rfl (a := (0 : Nat))
        have hX : (ckl G (some p0) (some w0) s1 s0 (G.2.2.1 nl 2) (G.2.2.1 nm 2)) = ((cks (gN G p0 5 ((G.2.1 p0 5) ||| (m_set (m_bits (G.2.2.1 s1 2) (G.2.1 s1 3) (G.2.1 s1 4) (G.2.1 p0 2)) (G.2.1 s1 3)))) (some w0) s0 (m_bits (G.2.2.1 s1 2) (G.2.1 s1 3) (G.2.1 s1 4) (G.2.1 p0 2)) (G.2.2.1 nm 2)), gN G p0 5 ((G.2.1 p0 5) ||| (m_set (m_bits (G.2.2.1 s1 2) (G.2.1 s1 3) (G.2.1 s1 4) (G.2.1 p0 2)) (G.2.1 s1 3)))) := by unfold ckl; show (if _ then _ else _) = _; rw [if_pos c_3, if_neg c_4, if_pos c_7]
        exact wr_z (x := decide ((cks (gN G p0 5 ((G.2.1 p0 5) ||| (m_set (m_bits (G.2.2.1 s1 2) (G.2.1 s1 3) (G.2.1 s1 4) (G.2.1 p0 2)) (G.2.1 s1 3)))) (some w0) s0 (m_bits (G.2.2.1 s1 2) (G.2.1 s1 3) (G.2.1 s1 4) (G.2.1 p0 2)) (G.2.2.1 nm 2)) = none)) hx hb hr hlocks ((u.1, u.2), gN G p0 5 ((G.2.1 p0 5) ||| (m_set (m_bits (G.2.2.1 s1 2) (G.2.1 s1 3) (G.2.1 s1 4) (G.2.1 p0 2)) (G.2.1 s1 3)))) ⟨by rw [hX], by rw [hX]; exact hz2, by rw [hX]⟩ hK hP hD hS d_Checker_checkLink_150
      · refine lv_aload_n hx hb d_Checker_checkLink_103 rfl (lv_at hl 3 rfl) ?_
        refine va_get (D := (dC, dI)) (ci := 5) (v := .ref qf) (C := R_Checker) (T := F_Checker) (N := 5) hx hb hts i_Checker hown hK hP 0 rfl rfl 1 (by decide) (hts _ k_352) (fun _ h9 => h9) rfl d_Checker_checkLink_104 ?_
        refine lv_iconst (v := nI 3) hx hb d_Checker_checkLink_107 (by decide) ?_
        refine lv_aload_n hx hb d_Checker_checkLink_108 rfl (lv_at hl 1 rfl) ?_
        refine pq_get (D := (dC, dI)) (ci := 11) (v := .ref nl) (C := R_Side) (T := F_Side) (N := 5) hx hb hts i_Side hown hK hP (gL_m hL hs1 (by decide)) (gE_3 (G := G) hs1) rfl 0 (by decide) (hts _ k_614) (fun _ h9 => h9) (congrArg (fun z9 => some (va_rf z9)) hsl) d_Checker_checkLink_109 ?_
        refine pq_get (D := (dC, dI)) (ci := 7) (v := .int (oI (G.2.2.1 nl 2))) (C := R_Name) (T := F_Name) (N := 3) hx hb hts i_Name hown hK hP (gL_m hL hnl (by decide)) (gE_1 (G := G) hnl) rfl 2 (by decide) (hts _ k_150) (fun _ h9 => h9) rfl d_Checker_checkLink_112 ?_
        refine we_i (cx := [(qf, .inr (2, [v0, v1]))]) (wr := [(qx, .inr (5, [.ref qc, .ref qf, .ref na, .ref df, .ref qi]))]) (pl := va_pl L (gE cO G)) (va_runV (As := [.int (nI 3), .int (oI (G.2.2.1 nl 2))]) (rest := []) ⟨hx, hb, hml, hown, hts⟩ (c_Fault_note l dC dI cB cI cL cZ cC cO qf (nI 3) (oI (G.2.2.1 nl 2)) _ ) (cwV 2 hts (good_V k_695 k_534 k_535 k_3 k_536) rfl rfl rfl (by decide +kernel) ⟨Nat.le_of_ble_eq_true rfl, Nat.le_of_ble_eq_true rfl⟩) (wc_preV (k0 := 1) (ci := 2) (r := (R_Fault, F_Fault, 2)) hK hP hD hS hA hF [1] (by decide) rfl rfl rfl) rfl rfl hl.1 rfl (lv_room (Nat.le_of_ble_eq_true rfl)) d_Checker_checkLink_115 ⟨Nat.le_of_ble_eq_true rfl, Nat.le_of_ble_eq_true rfl⟩) hP hD hS hA [1] [0] rfl rfl (by decide) (by decide) (fun r_13 _ H locs w_12 hP hD hS => ?_)
        have hP : va_P (dC, dI) cl ([(qx, .inr (5, [.ref qc, .ref qf, .ref na, .ref df, .ref qi])), (qf, .inr (2, [.int (nI 3), .int (oI (G.2.2.1 nl 2))]))] ++ va_pl L (gE cO G)) H := hP
        have hD : va_D A ([(qx, .inr (5, [.ref qc, .ref qf, .ref na, .ref df, .ref qi])), (qf, .inr (2, [.int (nI 3), .int (oI (G.2.2.1 nl 2))]))] ++ va_pl L (gE cO G)) := hD
        subst w_12
        have hX : (ckl G (some p0) (some w0) s1 s0 (G.2.2.1 nl 2) (G.2.2.1 nm 2)) = (some (3, G.2.2.1 nl 2), G) := by unfold ckl; show (if _ then _ else _) = _; rw [if_pos c_3, if_neg c_4, if_neg c_7]
        exact wr_z (x := false) hx hb hr hlocks ((.int (nI 3), .int (oI (G.2.2.1 nl 2))), G) ⟨by rw [hX]; rfl, by rw [hX]; rfl, by rw [hX]⟩ hK hP hD hS d_Checker_checkLink_118
    · refine lv_aload_n hx hb d_Checker_checkLink_62 rfl (lv_at hl 2 rfl) ?_
      refine lv_aload_n hx hb d_Checker_checkLink_63 rfl (lv_at hl 3 rfl) ?_
      refine pq_get (D := (dC, dI)) (ci := 12) (v := va_rf (some w0)) (C := R_Link) (T := F_Link) (N := 4) hx hb hts i_Link hown hK hP (gL_m hL hk (by decide)) (gE_4 (G := G) hk) rfl 3 (by decide) (hts _ k_662) (fun _ h9 => h9) (congrArg (fun z9 => some (va_rf z9)) hwo) d_Checker_checkLink_64 ?_
      refine lv_aload_n hx hb d_Checker_checkLink_67 rfl (lv_at hl 3 rfl) ?_
      refine pq_get (D := (dC, dI)) (ci := 12) (v := .ref s0) (C := R_Link) (T := F_Link) (N := 4) hx hb hts i_Link hown hK hP (gL_m hL hk (by decide)) (gE_4 (G := G) hk) rfl 1 (by decide) (hts _ k_657) (fun _ h9 => h9) (congrArg (fun z9 => some (va_rf z9)) hr1) d_Checker_checkLink_68 ?_
      refine lv_aload_n hx hb d_Checker_checkLink_71 rfl (lv_at hl 0 rfl) ?_
      refine lv_aload_n hx hb d_Checker_checkLink_72 rfl (lv_at hl 1 rfl) ?_
      refine pq_get (D := (dC, dI)) (ci := 8) (v := .int (nI (G.2.1 p0 2))) (C := R_Wire) (T := F_Wire) (N := 7) hx hb hts i_Wire hown hK hP (gL_m hL hp1 (by decide)) (gE_2 (G := G) hp1) rfl 2 (by decide) (hts _ k_222) (fun _ h9 => h9) (congrArg (fun z9 => some (Value.int (nI z9))) rfl) d_Checker_checkLink_73 ?_
      refine wd_i (cx := []) (wr := [(qx, .inr (5, [.ref qc, .ref qf, .ref na, .ref df, .ref qi])), (qf, .inr (2, [v0, v1]))]) (pl := va_pl L (gE cO G)) (va_runV (As := [.int (nI (G.2.1 p0 2))]) (rest := [.ref s0, va_rf (some w0), .ref qx]) ⟨hx, hb, hml, hown, hts⟩ (p_Side_width2 l dC dI cB cI cL cZ cC cO s1 (G.2.1 p0 2) t0 _ hL hs1 ho1 hlo1 hhi1 (fits_le c_3)) (cwV 1 hts (good_V k_714 k_715 k_716 k_21 k_717) rfl rfl rfl (by decide +kernel) ⟨Nat.le_of_ble_eq_true rfl, Nat.le_of_ble_eq_true rfl⟩) (wd_preV (ci := 11) (r := (R_Side, F_Side, 5)) hK hP hD hS hA hF hE [] (by decide) rfl rfl (pq_at (gL_m hL hs1 (by decide)) (gE_3 (G := G) hs1))) rfl rfl hl.1 rfl (lv_room (Nat.le_of_ble_eq_true rfl)) d_Checker_checkLink_76 ⟨Nat.le_of_ble_eq_true rfl, Nat.le_of_ble_eq_true rfl⟩) hP hD hS hA [] [0, 1] rfl rfl (by decide) (by decide) (fun r_15 _ H locs w_14 hP hD hS => ?_)
      have hP : va_P (dC, dI) cl ([(qx, .inr (5, [.ref qc, .ref qf, .ref na, .ref df, .ref qi])), (qf, .inr (2, [v0, v1]))] ++ va_pl L (gE cO G)) H := hP
      have hD : va_D A ([(qx, .inr (5, [.ref qc, .ref qf, .ref na, .ref df, .ref qi])), (qf, .inr (2, [v0, v1]))] ++ va_pl L (gE cO G)) := hD
      subst w_14
      refine wd_i (cx := [(qx, .inr (5, [.ref qc, .ref qf, .ref na, .ref df, .ref qi])), (qf, .inr (2, [v0, v1]))]) (wr := []) (pl := va_pl L (gE cO G)) (va_runV (As := [va_rf (some w0), .ref s0, .int (nI (m_bits (G.2.2.1 s1 2) (G.2.1 s1 3) (G.2.1 s1 4) (G.2.1 p0 2)))]) (rest := []) ⟨hx, hb, hml, hown, hts⟩ (p_Checker_checkTarget l dC dI cB cI cL cZ cC cO qx qc qf na df qi v0 v1 (some w0) s0 (m_bits (G.2.2.1 s1 2) (G.2.1 s1 3) (G.2.1 s1 4) (G.2.1 p0 2)) nm t0 _ hL hs ho hlo hhi hsn hnm hn0 (by omega) hW) (cwV 3 hts (good_V k_735 k_737 s_Checker_checkTarget k_8 k_738) rfl rfl rfl (by decide +kernel) ⟨Nat.le_of_ble_eq_true rfl, Nat.le_of_ble_eq_true rfl⟩) (wd_preV (ci := 5) (r := (R_Checker, F_Checker, 5)) hK hP hD hS hA hF hE [0, 1] (by decide) rfl rfl ⟨0, rfl⟩) rfl rfl hl.1 rfl (lv_room (Nat.le_of_ble_eq_true rfl)) d_Checker_checkLink_79 ⟨Nat.le_of_ble_eq_true rfl, Nat.le_of_ble_eq_true rfl⟩) hP hD hS hA [0, 1] [] rfl rfl (by decide) (by decide) (fun r_17 u H locs w_16 hP hD hS => ?_)
      have hP : va_P (dC, dI) cl ([(qx, .inr (5, [.ref qc, .ref qf, .ref na, .ref df, .ref qi])), (qf, .inr (2, [u.1.1, u.1.2]))] ++ va_pl L (gE cO u.2)) H := hP
      have hD : va_D A ([(qx, .inr (5, [.ref qc, .ref qf, .ref na, .ref df, .ref qi])), (qf, .inr (2, [u.1.1, u.1.2]))] ++ va_pl L (gE cO u.2)) := hD
      obtain ⟨r_17e, hz2, hz3⟩ := w_16
      subst r_17e
      have hz1 := rfl (a := (0 : Nat))
      have hX : (ckl G (some p0) (some w0) s1 s0 (G.2.2.1 nl 2) (G.2.2.1 nm 2)) = (ckt G (some w0) s0 (m_bits (G.2.2.1 s1 2) (G.2.1 s1 3) (G.2.1 s1 4) (G.2.1 p0 2)) (G.2.2.1 nm 2)) := by unfold ckl; show (if _ then _ else _) = _; rw [if_pos c_3, if_pos c_4]
      exact wr_z (x := decide ((ckt G (some w0) s0 (m_bits (G.2.2.1 s1 2) (G.2.1 s1 3) (G.2.1 s1 4) (G.2.1 p0 2)) (G.2.2.1 nm 2)).1 = none)) hx hb hr hlocks ((u.1.1, u.1.2), u.2) ⟨by rw [hX], by rw [hX]; exact hz2, by rw [hX]; exact hz3⟩ hK hP hD hS d_Checker_checkLink_82
  · refine lv_aload_n hx hb d_Checker_checkLink_41 rfl (lv_at hl 2 rfl) ?_
    refine va_get (D := (dC, dI)) (ci := 5) (v := .ref qf) (C := R_Checker) (T := F_Checker) (N := 5) hx hb hts i_Checker hown hK hP 0 rfl rfl 1 (by decide) (hts _ k_352) (fun _ h9 => h9) rfl d_Checker_checkLink_42 ?_
    refine lv_iconst (v := nI 5) hx hb d_Checker_checkLink_45 (by decide) ?_
    refine lv_aload_n hx hb d_Checker_checkLink_46 rfl (lv_at hl 0 rfl) ?_
    refine pq_get (D := (dC, dI)) (ci := 11) (v := .int (oI (G.2.2.1 s1 2))) (C := R_Side) (T := F_Side) (N := 5) hx hb hts i_Side hown hK hP (gL_m hL hs1 (by decide)) (gE_3 (G := G) hs1) rfl 2 (by decide) (hts _ k_620) (fun _ h9 => h9) rfl d_Checker_checkLink_47 ?_
    refine we_i (cx := [(qf, .inr (2, [v0, v1]))]) (wr := [(qx, .inr (5, [.ref qc, .ref qf, .ref na, .ref df, .ref qi]))]) (pl := va_pl L (gE cO G)) (va_runV (As := [.int (nI 5), .int (oI (G.2.2.1 s1 2))]) (rest := []) ⟨hx, hb, hml, hown, hts⟩ (c_Fault_note l dC dI cB cI cL cZ cC cO qf (nI 5) (oI (G.2.2.1 s1 2)) _ ) (cwV 2 hts (good_V k_695 k_534 k_535 k_3 k_536) rfl rfl rfl (by decide +kernel) ⟨Nat.le_of_ble_eq_true rfl, Nat.le_of_ble_eq_true rfl⟩) (wc_preV (k0 := 1) (ci := 2) (r := (R_Fault, F_Fault, 2)) hK hP hD hS hA hF [1] (by decide) rfl rfl rfl) rfl rfl hl.1 rfl (lv_room (Nat.le_of_ble_eq_true rfl)) d_Checker_checkLink_50 ⟨Nat.le_of_ble_eq_true rfl, Nat.le_of_ble_eq_true rfl⟩) hP hD hS hA [1] [0] rfl rfl (by decide) (by decide) (fun r_19 _ H locs w_18 hP hD hS => ?_)
    have hP : va_P (dC, dI) cl ([(qx, .inr (5, [.ref qc, .ref qf, .ref na, .ref df, .ref qi])), (qf, .inr (2, [.int (nI 5), .int (oI (G.2.2.1 s1 2))]))] ++ va_pl L (gE cO G)) H := hP
    have hD : va_D A ([(qx, .inr (5, [.ref qc, .ref qf, .ref na, .ref df, .ref qi])), (qf, .inr (2, [.int (nI 5), .int (oI (G.2.2.1 s1 2))]))] ++ va_pl L (gE cO G)) := hD
    subst w_18
    have hX : (ckl G (some p0) (some w0) s1 s0 (G.2.2.1 nl 2) (G.2.2.1 nm 2)) = (some (5, G.2.2.1 s1 2), G) := by unfold ckl; show (if _ then _ else _) = _; rw [if_neg (by rw [c_3]; decide)]
    exact wr_z (x := false) hx hb hr hlocks ((.int (nI 5), .int (oI (G.2.2.1 s1 2))), G) ⟨by rw [hX]; rfl, by rw [hX]; rfl, by rw [hX]⟩ hK hP hD hS d_Checker_checkLink_53
