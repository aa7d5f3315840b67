def czr (d : Nat) : Nat → Nat → PG → PG
  | 0, _, G => G
  | k + 1, i, G => czr d k (i + 1) (gR G d i none)
theorem czr_u (d n i : Nat) (G : PG) : czr d (n - i) i G = if i < n then czr d (n - (i + 1)) (i + 1) (gR G d i none) else G := by
  by_cases h : i < n
  · rw [if_pos h, show n - i = (n - (i + 1)) + 1 by omega]; rfl
  · rw [if_neg h, show n - i = 0 by omega]; rfl
theorem czr_k (d : Nat) : ∀ k i (G : PG), (czr d k i G).1 = G.1 ∧ (czr d k i G).2.1 = G.2.1 ∧ ∀ b, b ≠ d → gs G (czr d k i G) b
  | 0, _, G => ⟨rfl, rfl, fun b _ => gs.rf G b⟩
  | k + 1, i, G => by
    obtain ⟨h1, h2, h3⟩ := czr_k d k (i + 1) (gR G d i none)
    exact ⟨h1, h2, fun b hb => (gs_R hb).tr (h3 b hb)⟩
theorem d_List_clear_0 : decode b_List_clear 0 = .ok (.aload_n 0, 1) := by decide +kernel
theorem d_List_clear_1 : decode b_List_clear 1 = .ok (.dup, 1) := by decide +kernel
theorem d_List_clear_2 : decode b_List_clear 2 = .ok (.getfield 63, 3) := by decide +kernel
theorem d_List_clear_5 : decode b_List_clear 5 = .ok (.iconst 1, 1) := by decide +kernel
theorem d_List_clear_6 : decode b_List_clear 6 = .ok (.iadd, 1) := by decide +kernel
theorem d_List_clear_7 : decode b_List_clear 7 = .ok (.putfield 63, 3) := by decide +kernel
theorem d_List_clear_10 : decode b_List_clear 10 = .ok (.aload_n 0, 1) := by decide +kernel
theorem d_List_clear_11 : decode b_List_clear 11 = .ok (.getfield 9, 3) := by decide +kernel
theorem d_List_clear_14 : decode b_List_clear 14 = .ok (.astore_n 1, 1) := by decide +kernel
theorem d_List_clear_15 : decode b_List_clear 15 = .ok (.aload_n 0, 1) := by decide +kernel
theorem d_List_clear_16 : decode b_List_clear 16 = .ok (.getfield 48, 3) := by decide +kernel
theorem d_List_clear_19 : decode b_List_clear 19 = .ok (.istore_n 2, 1) := by decide +kernel
theorem d_List_clear_20 : decode b_List_clear 20 = .ok (.aload_n 0, 1) := by decide +kernel
theorem d_List_clear_21 : decode b_List_clear 21 = .ok (.iconst 0, 1) := by decide +kernel
theorem d_List_clear_22 : decode b_List_clear 22 = .ok (.dup_x1, 1) := by decide +kernel
theorem d_List_clear_23 : decode b_List_clear 23 = .ok (.putfield 48, 3) := by decide +kernel
theorem d_List_clear_26 : decode b_List_clear 26 = .ok (.istore_n 3, 1) := by decide +kernel
theorem d_List_clear_27 : decode b_List_clear 27 = .ok (.iload_n 3, 1) := by decide +kernel
theorem d_List_clear_28 : decode b_List_clear 28 = .ok (.iload_n 2, 1) := by decide +kernel
theorem d_List_clear_29 : decode b_List_clear 29 = .ok (.if_icmp .ge 13, 3) := by decide +kernel
theorem d_List_clear_32 : decode b_List_clear 32 = .ok (.aload_n 1, 1) := by decide +kernel
theorem d_List_clear_33 : decode b_List_clear 33 = .ok (.iload_n 3, 1) := by decide +kernel
theorem d_List_clear_34 : decode b_List_clear 34 = .ok (.aconst_null, 1) := by decide +kernel
theorem d_List_clear_35 : decode b_List_clear 35 = .ok (.aastore, 1) := by decide +kernel
theorem d_List_clear_36 : decode b_List_clear 36 = .ok (.iinc 3 1, 3) := by decide +kernel
theorem d_List_clear_39 : decode b_List_clear 39 = .ok (.goto (-12), 3) := by decide +kernel
theorem d_List_clear_42 : decode b_List_clear 42 = .ok (.return_, 1) := by decide +kernel
set_option maxHeartbeats 4000000 in
set_option maxRecDepth 100000 in
theorem lp_List_clear {p : Program} {l : Launch} {e : Env} {s : State} {m : MethodId} {args : Array Value} {below : List Frame} {meth : Method} {c : Code} {Q : State → Prop} {A : Nat → Prop} {dC : Nat → ClassId} {dI : Nat → Nat → Nat} {cB cI cL cZ cC cO : ClassId} {t0 : Nat} {L : List Nat} {a d n n0 : Nat} {F : PG} (hn : n0 ≤ n) (hn2 : n ≤ 600) (hx : p.tables.exec = Jvm.exec) (hb : c.code = b_List_clear) (hml : c.maxLocals = 4) (hown : s.vm.findClass R_List = some m.cls) (hts : ∀ w ∈ tb, w.before args s = true) (hA : ∀ q, s.heap.size ≤ q → A q) (hF : stF A s) (hE : stE A t0 s) (hK : va_K (dC, dI) cl [(cB, .byte), (cI, .int), (cL, .long), (cZ, .boolean), (cC, .char), (cO, .object "java/lang/Object")] s)
    (kx : ∀  (H : Heap) (locs : List Loc) (ls : Array Slot), va_P (dC, dI) cl ([] ++ va_pl L (gE cO F)) H → va_D A ([] ++ va_pl L (gE cO F)) → va_S A s.heap H locs → lv_has ls 4 [(0, .ref a)] → W p l e (headSpec w_List_clear { frames := 0, cells := 0, slots := 0, locals := 0 }).room s m args below meth c H locs 0 0 Q (F0 m 42 ls [])) :
    ∀ (k : Nat) (i : Nat) (G : PG) (H : Heap) (locs : List Loc) (ls : Array Slot), n0 < i + k → i ≤ n0 → gL L G → G.1 d = n + 8 → czr d (n0 - i) i G = F → va_P (dC, dI) cl ([] ++ va_pl L (gE cO G)) H → va_D A ([] ++ va_pl L (gE cO G)) → va_S A s.heap H locs → lv_has ls 4 [(3, .int (nI i)), (2, .int (nI n0)), (1, .ref d), (0, .ref a)] → W p l e (headSpec w_List_clear { frames := 0, cells := 0, slots := 0, locals := 0 }).room s m args below meth c H locs 0 0 Q (F0 m 27 ls []) := by
  intro k
  induction k with
  | zero =>
    intro i G H locs ls hk hi hL hd hr hP hD hS hl
    exfalso; omega
  | succ k ih =>
    intro i G H locs ls hk hi hL hd hr hP hD hS hl
    refine lv_iload_n hx hb d_List_clear_27 rfl (lv_at hl 0 rfl) ?_
    refine lv_iload_n hx hb d_List_clear_28 rfl (lv_at hl 1 rfl) ?_
    refine nv_icmp_ge (tgt := 42) hx hb (by omega) (by omega) d_List_clear_29 (by decide) (fun c_1 => ?_) (fun c_1 => ?_)
    · have hq : G = F := by rw [← hr, czr_u, if_neg (by omega)]
      subst hq
      exact kx H locs ls hP hD hS (lv_sub hl [3] rfl)
    · refine lv_aload_n hx hb d_List_clear_32 rfl (lv_at hl 2 rfl) ?_
      refine lv_iload_n hx hb d_List_clear_33 rfl (lv_at hl 0 rfl) ?_
      refine lv_null hx hb d_List_clear_34 ?_
      refine pq_astN hx hb hK hP hD hS (gL_m hL hd (by omega)) (gE_8 (G := G) hd) 5 rfl (by omega) (by omega) (uE_8 (G := G) hd) d_List_clear_35 (fun H locs hP hD hS => ?_)
      have hP : va_P (dC, dI) cl ([] ++ va_pl L (gE cO (gR G d i none))) H := hP
      have hD : va_D A ([] ++ va_pl L (gE cO (gR G d i none))) := hD
      refine lv_iinc (v := nI (i + 1)) (lv' := [(3, .int (nI (i + 1))), (2, .int (nI n0)), (1, .ref d), (0, .ref a)]) hx hb d_List_clear_36 hl (k := 0) rfl (nI_1 _) (by decide) rfl (fun ls hl => ?_)
      refine lv_goto (tgt := 27) hx hb d_List_clear_39 (by decide) ?_
      exact ih (i + 1) (gR G d i none) H locs ls (by omega) (by omega) hL hd (by rw [← hr, czr_u d n0 i, if_pos (by omega)]) hP hD hS (lv_sub hl [0, 1, 2, 3] rfl)
set_option maxHeartbeats 4000000 in
set_option maxRecDepth 100000 in
/-- clear() -/
theorem p_List_clear (l : Launch) (dC : Nat → ClassId) (dI : Nat → Nat → Nat) (cB cI cL cZ cC cO : ClassId) {L : List Nat} {G : PG} (a : Nat) (xs : List Nat) (t0 sz : Nat) (hL : gL L G) (h : LSx t0 G a xs) : Met l y_List_clear w_List_clear ({ frames := 0, cells := 0, slots := 0, locals := 0 }) (va_Pc [.ref a] (wB2 (dC, dI) cl [(cB, .byte), (cI, .int), (cL, .long), (cZ, .boolean), (cC, .char), (cO, .object "java/lang/Object")] sz t0 ([] ++ va_pl L (gE cO G)))) (va_Qv (fun (u : PG) => LSx t0 u a [] ∧ gL L u ∧ LF G u a) (fun u t => wA (dC, dI) cl [(cB, .byte), (cI, .int), (cL, .long), (cZ, .boolean), (cC, .char), (cO, .object "java/lang/Object")] (va_A ([] ++ va_pl L (gE cO G)) sz) ([] ++ va_pl L (gE cO u)) t) (va_A ([] ++ va_pl L (gE cO G)) sz)) 0 0 (va_A ([] ++ va_pl L (gE cO G)) sz) := by
  refine Met.ofW (cc := b_List_clear) (maxL := 4) (ret := none) (by decide) rfl ?_
  intro p e s m args below meth c s₁ B hml hv
  obtain ⟨rfl, ⟨hsz, hP, hK, hD0, hF⟩, hE⟩ := hv
  have hx := B.exec
  have hb := B.bytes
  have hr := B.returns
  have hts := atoms_spec (ws := w_List_clear) B.pre
  have hts : ∀ w ∈ tb, w.before _ s = true := fun w h => hts w (List.mem_cons_of_mem _ h)
  have hown : s.vm.findClass R_List = some m.cls := findClass_of_methodNamed B.named
  have hlocks := B.notSynchronized
  subst hsz
  have hD := hD0.self (sz := s.heap.size)
  generalize hAe : va_A ([] ++ va_pl L (gE cO G)) s.heap.size = A at hD hF hE ⊢
  have hA : ∀ q : Nat, s.heap.size ≤ q → A q := fun q h => by rw [← hAe]; exact Or.inr h
  have hS : va_S A s.heap s.heap [] := va_S.rf
  have hP : va_P (dC, dI) cl ([] ++ va_pl L (gE cO G)) s.heap := hP
  have hl := lv_entry ([.ref a]) (n := 4) (Nat.le_of_ble_eq_true rfl)
  rw [lg_entry_eq]
  generalize (lg_sl ([.ref a]) ++ List.replicate (4 - (lg_sl ([.ref a])).length) Slot.unset).toArray = ls at hl ⊢
  have hl : lv_has ls 4 [(0, .ref a)] := hl
  rcases h with ⟨ha, hs, h0, hxs⟩ | ⟨d, n, h⟩
  · subst hxs
    refine lv_aload_n hx hb d_List_clear_0 rfl (lv_at hl 0 rfl) ?_
    refine lv_dup hx hb d_List_clear_1 rfl ?_
    refine pq_get (D := (dC, dI)) (ci := 4) (v := .int (nI (G.2.1 a 2))) (C := R_List) (T := F_List) (N := 3) hx hb hts i_List hown hK hP (gL_m hL ha (by decide)) (gE_7 (G := G) ha) rfl 2 (by decide) (hts _ k_106) (fun x9 h9 => u_same (hts _ k_107) x9 h9) rfl d_List_clear_2 ?_
    refine lv_iconst (v := nI 1) hx hb d_List_clear_5 (by decide) ?_
    refine nv_iadd hx hb d_List_clear_6 ?_
    refine pq_put (D := (dC, dI)) (ci := 4) (v := .int (nI ((G.2.1 a 2) + 1))) (ty := .int) (C := R_List) (T := F_List) (N := 3) hx hb hts i_List t_List t_List_ok n_List hown hK hP hD hS (gL_m hL ha (by decide)) (gE_7 (G := G) ha) rfl 2 (by decide) (hts _ k_106) (fun x9 h9 => u_same (hts _ k_107) x9 h9) rfl (by decide +kernel) rfl rfl (Nat.le_of_ble_eq_true rfl) (uE_7_2 (G := G) (v := (G.2.1 a 2) + 1) ha) d_List_clear_7 (fun H locs hP hD hS => ?_)
    have hP : va_P (dC, dI) cl ([] ++ va_pl L (gE cO (gN G a 2 ((G.2.1 a 2) + 1)))) H := hP
    have hD : va_D A ([] ++ va_pl L (gE cO (gN G a 2 ((G.2.1 a 2) + 1)))) := hD
    refine lv_aload_n hx hb d_List_clear_10 rfl (lv_at hl 0 rfl) ?_
    refine pq_get (D := (dC, dI)) (ci := 4) (v := .ref t0) (C := R_List) (T := F_List) (N := 3) hx hb hts i_List hown hK hP (gL_m hL ha (by decide)) (gE_7 (G := (gN G a 2 ((G.2.1 a 2) + 1))) ha) rfl 0 (by decide) (hts _ k_103) (fun _ h9 => h9) (congrArg (fun z9 => some (va_rf z9)) h0) d_List_clear_11 ?_
    refine lv_astore_n (lv' := [(1, .ref t0), (0, .ref a)]) hx hb d_List_clear_14 rfl hl (by decide) rfl (fun ls hl => ?_)
    refine lv_aload_n hx hb d_List_clear_15 rfl (lv_at hl 1 rfl) ?_
    refine pq_get (D := (dC, dI)) (ci := 4) (v := .int (nI 0)) (C := R_List) (T := F_List) (N := 3) hx hb hts i_List hown hK hP (gL_m hL ha (by decide)) (gE_7 (G := (gN G a 2 ((G.2.1 a 2) + 1))) ha) rfl 1 (by decide) (hts _ k_104) (fun _ h9 => h9) (congrArg (fun z9 => some (Value.int (nI z9))) ((up2_k _ _ _ _ (by decide)).trans hs)) d_List_clear_16 ?_
    refine lv_istore_n (lv' := [(2, .int (nI 0)), (1, .ref t0), (0, .ref a)]) hx hb d_List_clear_19 rfl hl (by decide) rfl (fun ls hl => ?_)
    refine lv_aload_n hx hb d_List_clear_20 rfl (lv_at hl 2 rfl) ?_
    refine lv_iconst (v := nI 0) hx hb d_List_clear_21 (by decide) ?_
    refine lv_dup_x1 hx hb d_List_clear_22 rfl rfl ?_
    refine pq_put (D := (dC, dI)) (ci := 4) (v := .int (nI 0)) (ty := .int) (C := R_List) (T := F_List) (N := 3) hx hb hts i_List t_List t_List_ok n_List hown hK hP hD hS (gL_m hL ha (by decide)) (gE_7 (G := (gN G a 2 ((G.2.1 a 2) + 1))) ha) rfl 1 (by decide) (hts _ k_104) (fun _ h9 => h9) rfl (by decide +kernel) rfl rfl (Nat.le_of_ble_eq_true rfl) (uE_7_1 (G := (gN G a 2 ((G.2.1 a 2) + 1))) (v := 0) ha) d_List_clear_23 (fun H locs hP hD hS => ?_)
    have hP : va_P (dC, dI) cl ([] ++ va_pl L (gE cO (gN (gN G a 2 ((G.2.1 a 2) + 1)) a 1 0))) H := hP
    have hD : va_D A ([] ++ va_pl L (gE cO (gN (gN G a 2 ((G.2.1 a 2) + 1)) a 1 0))) := hD
    refine lv_istore_n (lv' := [(3, .int (nI 0)), (2, .int (nI 0)), (1, .ref t0), (0, .ref a)]) hx hb d_List_clear_26 rfl hl (by decide) rfl (fun ls hl => ?_)
    refine lv_iload_n hx hb d_List_clear_27 rfl (lv_at hl 0 rfl) ?_
    refine lv_iload_n hx hb d_List_clear_28 rfl (lv_at hl 1 rfl) ?_
    refine nv_icmp_ge (tgt := 42) hx hb (by omega) (by omega) d_List_clear_29 (by decide) (fun c_1 => ?_) (fun c_1 => ?_)
    · exact wr_v hx hb hr hlocks (gN (gN G a 2 ((G.2.1 a 2) + 1)) a 1 0) ⟨Or.inl ⟨ha, (up2_s _ _ _ _), h0, rfl⟩, hL, fun b _ hb9 _ => (gs_N hb9).tr (gs_N hb9)⟩ hK hP hD hS d_List_clear_42
    · exfalso; omega
  · have ha := h.1
    refine lv_aload_n hx hb d_List_clear_0 rfl (lv_at hl 0 rfl) ?_
    refine lv_dup hx hb d_List_clear_1 rfl ?_
    refine pq_get (D := (dC, dI)) (ci := 4) (v := .int (nI (G.2.1 a 2))) (C := R_List) (T := F_List) (N := 3) hx hb hts i_List hown hK hP (gL_m hL ha (by decide)) (gE_7 (G := G) ha) rfl 2 (by decide) (hts _ k_106) (fun x9 h9 => u_same (hts _ k_107) x9 h9) rfl d_List_clear_2 ?_
    refine lv_iconst (v := nI 1) hx hb d_List_clear_5 (by decide) ?_
    refine nv_iadd hx hb d_List_clear_6 ?_
    refine pq_put (D := (dC, dI)) (ci := 4) (v := .int (nI ((G.2.1 a 2) + 1))) (ty := .int) (C := R_List) (T := F_List) (N := 3) hx hb hts i_List t_List t_List_ok n_List hown hK hP hD hS (gL_m hL ha (by decide)) (gE_7 (G := G) ha) rfl 2 (by decide) (hts _ k_106) (fun x9 h9 => u_same (hts _ k_107) x9 h9) rfl (by decide +kernel) rfl rfl (Nat.le_of_ble_eq_true rfl) (uE_7_2 (G := G) (v := (G.2.1 a 2) + 1) ha) d_List_clear_7 (fun H locs hP hD hS => ?_)
    have hP : va_P (dC, dI) cl ([] ++ va_pl L (gE cO (gN G a 2 ((G.2.1 a 2) + 1)))) H := hP
    have hD : va_D A ([] ++ va_pl L (gE cO (gN G a 2 ((G.2.1 a 2) + 1)))) := hD
    refine lv_aload_n hx hb d_List_clear_10 rfl (lv_at hl 0 rfl) ?_
    refine pq_get (D := (dC, dI)) (ci := 4) (v := .ref d) (C := R_List) (T := F_List) (N := 3) hx hb hts i_List hown hK hP (gL_m hL ha (by decide)) (gE_7 (G := (gN G a 2 ((G.2.1 a 2) + 1))) ha) rfl 0 (by decide) (hts _ k_103) (fun _ h9 => h9) (congrArg (fun z9 => some (va_rf z9)) h.2.2.1) d_List_clear_11 ?_
    refine lv_astore_n (lv' := [(1, .ref d), (0, .ref a)]) hx hb d_List_clear_14 rfl hl (by decide) rfl (fun ls hl => ?_)
    refine lv_aload_n hx hb d_List_clear_15 rfl (lv_at hl 1 rfl) ?_
    refine pq_get (D := (dC, dI)) (ci := 4) (v := .int (nI xs.length)) (C := R_List) (T := F_List) (N := 3) hx hb hts i_List hown hK hP (gL_m hL ha (by decide)) (gE_7 (G := (gN G a 2 ((G.2.1 a 2) + 1))) ha) rfl 1 (by decide) (hts _ k_104) (fun _ h9 => h9) (congrArg (fun z9 => some (Value.int (nI z9))) ((up2_k _ _ _ _ (by decide)).trans h.2.1)) d_List_clear_16 ?_
    refine lv_istore_n (lv' := [(2, .int (nI xs.length)), (1, .ref d), (0, .ref a)]) hx hb d_List_clear_19 rfl hl (by decide) rfl (fun ls hl => ?_)
    refine lv_aload_n hx hb d_List_clear_20 rfl (lv_at hl 2 rfl) ?_
    refine lv_iconst (v := nI 0) hx hb d_List_clear_21 (by decide) ?_
    refine lv_dup_x1 hx hb d_List_clear_22 rfl rfl ?_
    refine pq_put (D := (dC, dI)) (ci := 4) (v := .int (nI 0)) (ty := .int) (C := R_List) (T := F_List) (N := 3) hx hb hts i_List t_List t_List_ok n_List hown hK hP hD hS (gL_m hL ha (by decide)) (gE_7 (G := (gN G a 2 ((G.2.1 a 2) + 1))) ha) rfl 1 (by decide) (hts _ k_104) (fun _ h9 => h9) rfl (by decide +kernel) rfl rfl (Nat.le_of_ble_eq_true rfl) (uE_7_1 (G := (gN G a 2 ((G.2.1 a 2) + 1))) (v := 0) ha) d_List_clear_23 (fun H locs hP hD hS => ?_)
    have hP : va_P (dC, dI) cl ([] ++ va_pl L (gE cO (gN (gN G a 2 ((G.2.1 a 2) + 1)) a 1 0))) H := hP
    have hD : va_D A ([] ++ va_pl L (gE cO (gN (gN G a 2 ((G.2.1 a 2) + 1)) a 1 0))) := hD
    refine lv_istore_n (lv' := [(3, .int (nI 0)), (2, .int (nI xs.length)), (1, .ref d), (0, .ref a)]) hx hb d_List_clear_26 rfl hl (by decide) rfl (fun ls hl => ?_)
    refine lp_List_clear (F := (czr d (xs.length) 0 (gN (gN G a 2 ((G.2.1 a 2) + 1)) a 1 0))) h.2.2.2.2.1 h.2.2.2.2.2.1.2 hx hb hml hown hts hA hF hE hK (fun H locs ls hP hD hS hl => ?_) (xs.length + 1) 0 (gN (gN G a 2 ((G.2.1 a 2) + 1)) a 1 0) _ _ ls (by omega) (by omega) hL h.2.2.2.1 rfl hP hD hS (lv_sub hl [0, 1, 2, 3] rfl)
    obtain ⟨z1, z2, z3⟩ := czr_k d xs.length 0 (gN (gN G a 2 ((G.2.1 a 2) + 1)) a 1 0)
    have had : a ≠ d := fun e9 => by have q9 := h.2.2.2.1; rw [← e9, h.1] at q9; omega
    refine wr_v hx hb hr hlocks (czr d (xs.length) 0 (gN (gN G a 2 ((G.2.1 a 2) + 1)) a 1 0)) ⟨Or.inr ⟨d, n, by rw [z1]; exact h.1, by rw [z2]; exact up2_s _ _ _ _, by rw [(z3 a had).2.2.2.2.2]; exact h.2.2.1, by rw [z1]; exact h.2.2.2.1, Nat.zero_le _, h.2.2.2.2.2.1, ?_, fun i hi => absurd hi (Nat.not_lt_zero _), fun x hx => absurd hx List.not_mem_nil⟩, fun b hb9 => hL b (by rw [z1] at hb9; exact hb9), fun b hb1 hb2 hb3 => ((gs_N hb2).tr (gs_N hb2)).tr (z3 b (fun e9 => hb3 ⟨by rw [e9, h.2.2.2.1]; omega, by rw [e9]; exact h.2.2.2.2.2.2.1⟩))⟩ hK hP hD hS d_List_clear_42
    rw [z2]; show up2 (up2 G.2.1 a 2 _) a 1 0 d 9 = a; rw [up2_k _ _ _ _ (by decide), up2_k _ _ _ _ (by decide)]; exact h.2.2.2.2.2.2.1
theorem d_Part_init_0 : decode b_Part_init 0 = .ok (.aload_n 0, 1) := by decide +kernel
theorem d_Part_init_1 : decode b_Part_init 1 = .ok (.invokespecial 1, 3) := by decide +kernel
theorem d_Part_init_4 : decode b_Part_init 4 = .ok (.aload_n 0, 1) := by decide +kernel
theorem d_Part_init_5 : decode b_Part_init 5 = .ok (.new 7, 3) := by decide +kernel
theorem d_Part_init_8 : decode b_Part_init 8 = .ok (.dup, 1) := by decide +kernel
theorem d_Part_init_9 : decode b_Part_init 9 = .ok (.invokespecial 9, 3) := by decide +kernel
theorem d_Part_init_12 : decode b_Part_init 12 = .ok (.putfield 10, 3) := by decide +kernel
theorem d_Part_init_15 : decode b_Part_init 15 = .ok (.aload_n 0, 1) := by decide +kernel
theorem d_Part_init_16 : decode b_Part_init 16 = .ok (.aconst_null, 1) := by decide +kernel
theorem d_Part_init_17 : decode b_Part_init 17 = .ok (.putfield 16, 3) := by decide +kernel
theorem d_Part_init_20 : decode b_Part_init 20 = .ok (.aload_n 0, 1) := by decide +kernel
theorem d_Part_init_21 : decode b_Part_init 21 = .ok (.aload_n 1, 1) := by decide +kernel
theorem d_Part_init_22 : decode b_Part_init 22 = .ok (.putfield 20, 3) := by decide +kernel
theorem d_Part_init_25 : decode b_Part_init 25 = .ok (.return_, 1) := by decide +kernel
set_option maxHeartbeats 4000000 in
set_option maxRecDepth 100000 in
/-- new Part(name) -/
theorem p_Part_init (l : Launch) (dC : Nat → ClassId) (dI : Nat → Nat → Nat) (cB cI cL cZ cC cO : ClassId) {L : List Nat} {G : PG} (a nm : Nat) (t0 sz : Nat) (hL : gL L G) (ha : G.1 a = 5) : Met l y_Part_init w_Part_init ({ frames := 4, cells := 1, slots := 3, locals := 140 }) (va_Pc [.ref a, .ref nm] (wB2 (dC, dI) cl [(cB, .byte), (cI, .int), (cL, .long), (cZ, .boolean), (cC, .char), (cO, .object "java/lang/Object")] sz t0 ([] ++ va_pl L (gE cO G)))) (va_Qv (fun (u : Nat) => u ∉ L) (fun u t => wA (dC, dI) cl [(cB, .byte), (cI, .int), (cL, .long), (cZ, .boolean), (cC, .char), (cO, .object "java/lang/Object")] (va_A ([] ++ va_pl L (gE cO G)) sz) ([] ++ va_pl (L ++ [u]) (gE cO (gR (gR (gR (gR (gN (g0 G u 7) u 2 0) u 0 (some t0)) a 1 (some u)) a 2 none) a 0 (some nm)))) t) (va_A ([] ++ va_pl L (gE cO G)) sz)) 1 3 (va_A ([] ++ va_pl L (gE cO G)) sz) := by
  refine Met.ofW (cc := b_Part_init) (maxL := 2) (ret := none) (by decide) rfl ?_
  intro p e s m args below meth c s₁ B hml hv
  obtain ⟨rfl, ⟨hsz, hP, hK, hD0, hF⟩, hE⟩ := hv
  have hx := B.exec
  have hb := B.bytes
  have hr := B.returns
  have hts := atoms_spec (ws := w_Part_init) B.pre
  have hts : ∀ w ∈ tb, w.before _ s = true := fun w h => hts w (List.mem_cons_of_mem _ h)
  have hown : s.vm.findClass R_Part = some m.cls := findClass_of_methodNamed B.named
  have hlocks := B.notSynchronized
  have hin : meth.name = "<init>" := (name_of_methodNamed B.named B.method).1
  subst hsz
  have hD := hD0.self (sz := s.heap.size)
  generalize hAe : va_A ([] ++ va_pl L (gE cO G)) s.heap.size = A at hD hF hE ⊢
  have hA : ∀ q : Nat, s.heap.size ≤ q → A q := fun q h => by rw [← hAe]; exact Or.inr h
  have hS : va_S A s.heap s.heap [] := va_S.rf
  have hP : va_P (dC, dI) cl ([] ++ va_pl L (gE cO G)) s.heap := hP
  have hl := lv_entry ([.ref a, .ref nm]) (n := 2) (Nat.le_of_ble_eq_true rfl)
  rw [lg_entry_eq]
  generalize (lg_sl ([.ref a, .ref nm]) ++ List.replicate (2 - (lg_sl ([.ref a, .ref nm])).length) Slot.unset).toArray = ls at hl ⊢
  have hl : lv_has ls 2 [(0, .ref a), (1, .ref nm)] := hl
  refine lv_aload_n hx hb d_Part_init_0 rfl (lv_at hl 0 rfl) ?_
  refine W.objInit hx hb hown (hts _ k_580) (hts _ k_29) (hts _ k_30) rfl (by rw [hml]; exact hl.1) rfl d_Part_init_1 (Nat.le_of_ble_eq_true rfl) (Nat.le_of_ble_eq_true rfl) ?_
  refine W.eq (g2 := F0 m 4 ls []) rfl ?_
  refine lv_aload_n hx hb d_Part_init_4 rfl (lv_at hl 0 rfl) ?_
  refine pq_new (ci := 4) (fs := [.null, .int (nI 0), .int (nI 0)]) (C := R_List) (T := F_List) (N := 3) (fn := fun q9 => gE cO (g0 G q9 7)) hx hb hts i_List t_List t_List_ok hown (hts _ k_581) (hts _ k_90) (hts _ k_7) hK hP hD hS hA rfl (fun j hj => by rcases (show j = 0 ∨ j = 1 ∨ j = 2 by omega) with rfl | rfl | rfl <;> rfl) (Nat.le_of_ble_eq_true rfl) (Nat.le_of_ble_eq_true rfl) (fun q9 => nE_7 (G := G) q9) d_Part_init_5 (fun q_1 H nq_1 hP hD hS => ?_)
  have kf_2 : (g0 G q_1 7).1 a = 5 := (g0_k hL ha (by decide) nq_1)
  have ne_3 : a ≠ q_1 := g0_ne hL ha (by decide) nq_1
  have hL0 := hL
  have hz9 : G.1 q_1 = 0 := g0_n hL nq_1
  replace hL := gL_new (a := q_1) (n := 7) hL
  have hP : va_P (dC, dI) cl ([] ++ va_pl (L ++ [q_1]) (gE cO (g0 G q_1 7))) H := hP
  have hD : va_D A ([] ++ va_pl (L ++ [q_1]) (gE cO (g0 G q_1 7))) := hD
  refine lv_dup hx hb d_Part_init_8 rfl ?_
  refine wd_v (cx := []) (wr := []) (pl := va_pl (L ++ [q_1]) (gE cO (g0 G q_1 7))) (va_runI (As := []) (rest := [.ref q_1, .ref a]) ⟨hx, hb, hml, hown, hts⟩ (p_List_init l dC dI cB cI cL cZ cC cO (G := g0 G q_1 7) q_1 t0 _ hL (g0_q G q_1 7)) (cwI 0 hts (good_c k_93) rfl rfl rfl (hts _ k_7) (hts _ k_582) (hts _ k_92) rfl (by decide +kernel) ⟨Nat.le_of_ble_eq_true rfl, Nat.le_of_ble_eq_true rfl⟩) (wd_preS hK hP hD hS hA hF hE [] (by decide) rfl) rfl rfl hl.1 rfl (lv_room (Nat.le_of_ble_eq_true rfl)) d_Part_init_9 ⟨Nat.le_of_ble_eq_true rfl, Nat.le_of_ble_eq_true rfl⟩) hP hD hS hA [] [] rfl rfl (by decide) (by decide) (fun _ H locs w_4 hP hD hS => ?_)
  have hP : va_P (dC, dI) cl ([] ++ va_pl (L ++ [q_1]) (gE cO (gR (gN (g0 G q_1 7) q_1 2 0) q_1 0 (some t0)))) H := hP
  have hD : va_D A ([] ++ va_pl (L ++ [q_1]) (gE cO (gR (gN (g0 G q_1 7) q_1 2 0) q_1 0 (some t0)))) := hD
  refine pq_putF (D := (dC, dI)) (ci := 10) (v := .ref q_1) (ty := .object "java/util/ArrayList") (C := R_Part) (T := F_Part) (N := 3) hx hb hts i_Part t_Part t_Part_ok n_Part hown hK hP hD hS (gL_m hL kf_2 (by decide)) (gE_5 (G := (gR (gN (g0 G q_1 7) q_1 2 0) q_1 0 (some t0))) kf_2) rfl 1 (by decide) (hts _ k_585) (fun _ h9 => h9) rfl hin rfl (by decide +kernel) rfl rfl (Nat.le_of_ble_eq_true rfl) (uE_5_1 (G := (gR (gN (g0 G q_1 7) q_1 2 0) q_1 0 (some t0))) (v := some q_1) kf_2) d_Part_init_12 (fun H locs hP hD hS => ?_)
  have hP : va_P (dC, dI) cl ([] ++ va_pl (L ++ [q_1]) (gE cO (gR (gR (gN (g0 G q_1 7) q_1 2 0) q_1 0 (some t0)) a 1 (some q_1)))) H := hP
  have hD : va_D A ([] ++ va_pl (L ++ [q_1]) (gE cO (gR (gR (gN (g0 G q_1 7) q_1 2 0) q_1 0 (some t0)) a 1 (some q_1)))) := hD
  refine lv_aload_n hx hb d_Part_init_15 rfl (lv_at hl 0 rfl) ?_
  refine lv_null hx hb d_Part_init_16 ?_
  refine pq_put (D := (dC, dI)) (ci := 10) (v := .null) (ty := .object "ChipDesk$Chip") (C := R_Part) (T := F_Part) (N := 3) hx hb hts i_Part t_Part t_Part_ok n_Part hown hK hP hD hS (gL_m hL kf_2 (by decide)) (gE_5 (G := (gR (gR (gN (g0 G q_1 7) q_1 2 0) q_1 0 (some t0)) a 1 (some q_1))) kf_2) rfl 2 (by decide) (hts _ k_589) (fun _ h9 => h9) rfl (by decide +kernel) rfl rfl (Nat.le_of_ble_eq_true rfl) (uE_5_2 (G := (gR (gR (gN (g0 G q_1 7) q_1 2 0) q_1 0 (some t0)) a 1 (some q_1))) (v := none) kf_2) d_Part_init_17 (fun H locs hP hD hS => ?_)
  have hP : va_P (dC, dI) cl ([] ++ va_pl (L ++ [q_1]) (gE cO (gR (gR (gR (gN (g0 G q_1 7) q_1 2 0) q_1 0 (some t0)) a 1 (some q_1)) a 2 none))) H := hP
  have hD : va_D A ([] ++ va_pl (L ++ [q_1]) (gE cO (gR (gR (gR (gN (g0 G q_1 7) q_1 2 0) q_1 0 (some t0)) a 1 (some q_1)) a 2 none))) := hD
  refine lv_aload_n hx hb d_Part_init_20 rfl (lv_at hl 0 rfl) ?_
  refine lv_aload_n hx hb d_Part_init_21 rfl (lv_at hl 1 rfl) ?_
  refine pq_putF (D := (dC, dI)) (ci := 10) (v := .ref nm) (ty := .object "ChipDesk$Name") (C := R_Part) (T := F_Part) (N := 3) hx hb hts i_Part t_Part t_Part_ok n_Part hown hK hP hD hS (gL_m hL kf_2 (by decide)) (gE_5 (G := (gR (gR (gR (gN (g0 G q_1 7) q_1 2 0) q_1 0 (some t0)) a 1 (some q_1)) a 2 none)) kf_2) rfl 0 (by decide) (hts _ k_583) (fun _ h9 => h9) rfl hin rfl (by decide +kernel) rfl rfl (Nat.le_of_ble_eq_true rfl) (uE_5_0 (G := (gR (gR (gR (gN (g0 G q_1 7) q_1 2 0) q_1 0 (some t0)) a 1 (some q_1)) a 2 none)) (v := some nm) kf_2) d_Part_init_22 (fun H locs hP hD hS => ?_)
  have hP : va_P (dC, dI) cl ([] ++ va_pl (L ++ [q_1]) (gE cO (gR (gR (gR (gR (gN (g0 G q_1 7) q_1 2 0) q_1 0 (some t0)) a 1 (some q_1)) a 2 none) a 0 (some nm)))) H := hP
  have hD : va_D A ([] ++ va_pl (L ++ [q_1]) (gE cO (gR (gR (gR (gR (gN (g0 G q_1 7) q_1 2 0) q_1 0 (some t0)) a 1 (some q_1)) a 2 none) a 0 (some nm)))) := hD
  exact wr_v hx hb hr hlocks q_1 nq_1 hK hP hD hS d_Part_init_25
theorem d_Chip_init_0 : decode b_Chip_init 0 = .ok (.aload_n 0, 1) := by decide +kernel
theorem d_Chip_init_1 : decode b_Chip_init 1 = .ok (.invokespecial 1, 3) := by decide +kernel
theorem d_Chip_init_4 : decode b_Chip_init 4 = .ok (.aload_n 0, 1) := by decide +kernel
theorem d_Chip_init_5 : decode b_Chip_init 5 = .ok (.new 7, 3) := by decide +kernel
theorem d_Chip_init_8 : decode b_Chip_init 8 = .ok (.dup, 1) := by decide +kernel
theorem d_Chip_init_9 : decode b_Chip_init 9 = .ok (.invokespecial 9, 3) := by decide +kernel
theorem d_Chip_init_12 : decode b_Chip_init 12 = .ok (.putfield 10, 3) := by decide +kernel
theorem d_Chip_init_15 : decode b_Chip_init 15 = .ok (.aload_n 0, 1) := by decide +kernel
theorem d_Chip_init_16 : decode b_Chip_init 16 = .ok (.new 7, 3) := by decide +kernel
theorem d_Chip_init_19 : decode b_Chip_init 19 = .ok (.dup, 1) := by decide +kernel
theorem d_Chip_init_20 : decode b_Chip_init 20 = .ok (.invokespecial 9, 3) := by decide +kernel
theorem d_Chip_init_23 : decode b_Chip_init 23 = .ok (.putfield 16, 3) := by decide +kernel
theorem d_Chip_init_26 : decode b_Chip_init 26 = .ok (.aload_n 0, 1) := by decide +kernel
theorem d_Chip_init_27 : decode b_Chip_init 27 = .ok (.new 7, 3) := by decide +kernel
theorem d_Chip_init_30 : decode b_Chip_init 30 = .ok (.dup, 1) := by decide +kernel
theorem d_Chip_init_31 : decode b_Chip_init 31 = .ok (.invokespecial 9, 3) := by decide +kernel
theorem d_Chip_init_34 : decode b_Chip_init 34 = .ok (.putfield 19, 3) := by decide +kernel
theorem d_Chip_init_37 : decode b_Chip_init 37 = .ok (.aload_n 0, 1) := by decide +kernel
theorem d_Chip_init_38 : decode b_Chip_init 38 = .ok (.iconst 0, 1) := by decide +kernel
theorem d_Chip_init_39 : decode b_Chip_init 39 = .ok (.putfield 22, 3) := by decide +kernel
theorem d_Chip_init_42 : decode b_Chip_init 42 = .ok (.aload_n 0, 1) := by decide +kernel
theorem d_Chip_init_43 : decode b_Chip_init 43 = .ok (.iconst 0, 1) := by decide +kernel
theorem d_Chip_init_44 : decode b_Chip_init 44 = .ok (.putfield 26, 3) := by decide +kernel
theorem d_Chip_init_47 : decode b_Chip_init 47 = .ok (.aload_n 0, 1) := by decide +kernel
theorem d_Chip_init_48 : decode b_Chip_init 48 = .ok (.iconst 0, 1) := by decide +kernel
theorem d_Chip_init_49 : decode b_Chip_init 49 = .ok (.putfield 29, 3) := by decide +kernel
theorem d_Chip_init_52 : decode b_Chip_init 52 = .ok (.aload_n 0, 1) := by decide +kernel
theorem d_Chip_init_53 : decode b_Chip_init 53 = .ok (.aload_n 1, 1) := by decide +kernel
theorem d_Chip_init_54 : decode b_Chip_init 54 = .ok (.putfield 32, 3) := by decide +kernel
theorem d_Chip_init_57 : decode b_Chip_init 57 = .ok (.aload_n 0, 1) := by decide +kernel
theorem d_Chip_init_58 : decode b_Chip_init 58 = .ok (.iload_n 2, 1) := by decide +kernel
theorem d_Chip_init_59 : decode b_Chip_init 59 = .ok (.putfield 36, 3) := by decide +kernel
theorem d_Chip_init_62 : decode b_Chip_init 62 = .ok (.aload_n 0, 1) := by decide +kernel
theorem d_Chip_init_63 : decode b_Chip_init 63 = .ok (.iload_n 3, 1) := by decide +kernel
theorem d_Chip_init_64 : decode b_Chip_init 64 = .ok (.putfield 39, 3) := by decide +kernel
theorem d_Chip_init_67 : decode b_Chip_init 67 = .ok (.return_, 1) := by decide +kernel
set_option maxHeartbeats 4000000 in
set_option maxRecDepth 100000 in
/-- new Chip(name, gate, index) -/
theorem p_Chip_init (l : Launch) (dC : Nat → ClassId) (dI : Nat → Nat → Nat) (cB cI cL cZ cC cO : ClassId) {L : List Nat} {G : PG} (a nm gt ix : Nat) (t0 sz : Nat) (hL : gL L G) (ha : G.1 a = 6) : Met l y_Chip_init w_Chip_init ({ frames := 4, cells := 3, slots := 9, locals := 140 }) (va_Pc [.ref a, .ref nm, .int (nI gt), .int (nI ix)] (wB2 (dC, dI) cl [(cB, .byte), (cI, .int), (cL, .long), (cZ, .boolean), (cC, .char), (cO, .object "java/lang/Object")] sz t0 ([] ++ va_pl L (gE cO G)))) (va_Qv (fun (u : Nat × Nat × Nat) => u.1 ∉ L ∧ u.2.1 ∉ (L ++ [u.1]) ∧ u.2.2 ∉ ((L ++ [u.1]) ++ [u.2.1])) (fun u t => wA (dC, dI) cl [(cB, .byte), (cI, .int), (cL, .long), (cZ, .boolean), (cC, .char), (cO, .object "java/lang/Object")] (va_A ([] ++ va_pl L (gE cO G)) sz) ([] ++ va_pl (L ++ [u.1] ++ [u.2.1] ++ [u.2.2]) (gE cO (gN (gN (gR (gN (gN (gN (gR (gR (gN (g0 (gR (gR (gN (g0 (gR (gR (gN (g0 G u.1 7) u.1 2 0) u.1 0 (some t0)) a 3 (some u.1)) u.2.1 7) u.2.1 2 0) u.2.1 0 (some t0)) a 4 (some u.2.1)) u.2.2 7) u.2.2 2 0) u.2.2 0 (some t0)) a 5 (some u.2.2)) a 6 0) a 7 0) a 8 0) a 0 (some nm)) a 1 gt) a 2 ix))) t) (va_A ([] ++ va_pl L (gE cO G)) sz)) 3 9 (va_A ([] ++ va_pl L (gE cO G)) sz) := by
  refine Met.ofW (cc := b_Chip_init) (maxL := 4) (ret := none) (by decide) rfl ?_
  intro p e s m args below meth c s₁ B hml hv
  obtain ⟨rfl, ⟨hsz, hP, hK, hD0, hF⟩, hE⟩ := hv
  have hx := B.exec
  have hb := B.bytes
  have hr := B.returns
  have hts := atoms_spec (ws := w_Chip_init) B.pre
  have hts : ∀ w ∈ tb, w.before _ s = true := fun w h => hts w (List.mem_cons_of_mem _ h)
  have hown : s.vm.findClass R_Chip = some m.cls := findClass_of_methodNamed B.named
  have hlocks := B.notSynchronized
  have hin : meth.name = "<init>" := (name_of_methodNamed B.named B.method).1
  subst hsz
  have hD := hD0.self (sz := s.heap.size)
  generalize hAe : va_A ([] ++ va_pl L (gE cO G)) s.heap.size = A at hD hF hE ⊢
  have hA : ∀ q : Nat, s.heap.size ≤ q → A q := fun q h => by rw [← hAe]; exact Or.inr h
  have hS : va_S A s.heap s.heap [] := va_S.rf
  have hP : va_P (dC, dI) cl ([] ++ va_pl L (gE cO G)) s.heap := hP
  have hl := lv_entry ([.ref a, .ref nm, .int (nI gt), .int (nI ix)]) (n := 4) (Nat.le_of_ble_eq_true rfl)
  rw [lg_entry_eq]
  generalize (lg_sl ([.ref a, .ref nm, .int (nI gt), .int (nI ix)]) ++ List.replicate (4 - (lg_sl ([.ref a, .ref nm, .int (nI gt), .int (nI ix)])).length) Slot.unset).toArray = ls at hl ⊢
  have hl : lv_has ls 4 [(0, .ref a), (1, .ref nm), (2, .int (nI gt)), (3, .int (nI ix))] := hl
  refine lv_aload_n hx hb d_Chip_init_0 rfl (lv_at hl 0 rfl) ?_
  refine W.objInit hx hb hown (hts _ k_162) (hts _ k_29) (hts _ k_30) rfl (by rw [hml]; exact hl.1) rfl d_Chip_init_1 (Nat.le_of_ble_eq_true rfl) (Nat.le_of_ble_eq_true rfl) ?_
  refine W.eq (g2 := F0 m 4 ls []) rfl ?_
  refine lv_aload_n hx hb d_Chip_init_4 rfl (lv_at hl 0 rfl) ?_
  refine pq_new (ci := 4) (fs := [.null, .int (nI 0), .int (nI 0)]) (C := R_List) (T := F_List) (N := 3) (fn := fun q9 => gE cO (g0 G q9 7)) hx hb hts i_List t_List t_List_ok hown (hts _ k_163) (hts _ k_90) (hts _ k_7) hK hP hD hS hA rfl (fun j hj => by rcases (show j = 0 ∨ j = 1 ∨ j = 2 by omega) with rfl | rfl | rfl <;> rfl) (Nat.le_of_ble_eq_true rfl) (Nat.le_of_ble_eq_true rfl) (fun q9 => nE_7 (G := G) q9) d_Chip_init_5 (fun q_1 H nq_1 hP hD hS => ?_)
  have kf_2 : (g0 G q_1 7).1 a = 6 := (g0_k hL ha (by decide) nq_1)
  have ne_3 : a ≠ q_1 := g0_ne hL ha (by decide) nq_1
  have hL0 := hL
  have hz9 : G.1 q_1 = 0 := g0_n hL nq_1
  replace hL := gL_new (a := q_1) (n := 7) hL
  have hP : va_P (dC, dI) cl ([] ++ va_pl (L ++ [q_1]) (gE cO (g0 G q_1 7))) H := hP
  have hD : va_D A ([] ++ va_pl (L ++ [q_1]) (gE cO (g0 G q_1 7))) := hD
  refine lv_dup hx hb d_Chip_init_8 rfl ?_
  refine wd_v (cx := []) (wr := []) (pl := va_pl (L ++ [q_1]) (gE cO (g0 G q_1 7))) (va_runI (As := []) (rest := [.ref q_1, .ref a]) ⟨hx, hb, hml, hown, hts⟩ (p_List_init l dC dI cB cI cL cZ cC cO (G := g0 G q_1 7) q_1 t0 _ hL (g0_q G q_1 7)) (cwI 0 hts (good_c k_93) rfl rfl rfl (hts _ k_7) (hts _ k_164) (hts _ k_92) rfl (by decide +kernel) ⟨Nat.le_of_ble_eq_true rfl, Nat.le_of_ble_eq_true rfl⟩) (wd_preS hK hP hD hS hA hF hE [] (by decide) rfl) rfl rfl hl.1 rfl (lv_room (Nat.le_of_ble_eq_true rfl)) d_Chip_init_9 ⟨Nat.le_of_ble_eq_true rfl, Nat.le_of_ble_eq_true rfl⟩) hP hD hS hA [] [] rfl rfl (by decide) (by decide) (fun _ H locs w_4 hP hD hS => ?_)
  have hP : va_P (dC, dI) cl ([] ++ va_pl (L ++ [q_1]) (gE cO (gR (gN (g0 G q_1 7) q_1 2 0) q_1 0 (some t0)))) H := hP
  have hD : va_D A ([] ++ va_pl (L ++ [q_1]) (gE cO (gR (gN (g0 G q_1 7) q_1 2 0) q_1 0 (some t0)))) := hD
  refine pq_putF (D := (dC, dI)) (ci := 6) (v := .ref q_1) (ty := .object "java/util/ArrayList") (C := R_Chip) (T := F_Chip) (N := 9) hx hb hts i_Chip t_Chip t_Chip_ok n_Chip hown hK hP hD hS (gL_m hL kf_2 (by decide)) (gE_6 (G := (gR (gN (g0 G q_1 7) q_1 2 0) q_1 0 (some t0))) kf_2) rfl 3 (by decide) (hts _ k_172) (fun _ h9 => h9) rfl hin rfl (by decide +kernel) rfl rfl (Nat.le_of_ble_eq_true rfl) (uE_6_3 (G := (gR (gN (g0 G q_1 7) q_1 2 0) q_1 0 (some t0))) (v := some q_1) kf_2) d_Chip_init_12 (fun H locs hP hD hS => ?_)
  have hP : va_P (dC, dI) cl ([] ++ va_pl (L ++ [q_1]) (gE cO (gR (gR (gN (g0 G q_1 7) q_1 2 0) q_1 0 (some t0)) a 3 (some q_1)))) H := hP
  have hD : va_D A ([] ++ va_pl (L ++ [q_1]) (gE cO (gR (gR (gN (g0 G q_1 7) q_1 2 0) q_1 0 (some t0)) a 3 (some q_1)))) := hD
  refine lv_aload_n hx hb d_Chip_init_15 rfl (lv_at hl 0 rfl) ?_
  refine pq_new (ci := 4) (fs := [.null, .int (nI 0), .int (nI 0)]) (C := R_List) (T := F_List) (N := 3) (fn := fun q9 => gE cO (g0 (gR (gR (gN (g0 G q_1 7) q_1 2 0) q_1 0 (some t0)) a 3 (some q_1)) q9 7)) hx hb hts i_List t_List t_List_ok hown (hts _ k_163) (hts _ k_90) (hts _ k_7) hK hP hD hS hA rfl (fun j hj => by rcases (show j = 0 ∨ j = 1 ∨ j = 2 by omega) with rfl | rfl | rfl <;> rfl) (Nat.le_of_ble_eq_true rfl) (Nat.le_of_ble_eq_true rfl) (fun q9 => nE_7 (G := (gR (gR (gN (g0 G q_1 7) q_1 2 0) q_1 0 (some t0)) a 3 (some q_1))) q9) d_Chip_init_16 (fun q_6 H nq_6 hP hD hS => ?_)
  have kf_7 : (g0 (gR (gR (gN (g0 G q_1 7) q_1 2 0) q_1 0 (some t0)) a 3 (some q_1)) q_6 7).1 a = 6 := (g0_k hL kf_2 (by decide) nq_6)
  have ne_8 : a ≠ q_6 := g0_ne hL kf_2 (by decide) nq_6
  have kf_9 : (g0 (gR (gR (gN (g0 G q_1 7) q_1 2 0) q_1 0 (some t0)) a 3 (some q_1)) q_6 7).1 q_1 = 7 := (g0_k hL (g0_q G q_1 7) (by decide) nq_6)
  have ne_10 : q_1 ≠ q_6 := g0_ne hL (g0_q G q_1 7) (by decide) nq_6
  have fa_11 : (g0 (gR (gR (gN (g0 G q_1 7) q_1 2 0) q_1 0 (some t0)) a 3 (some q_1)) q_6 7).2.2.2.2.2 a 3 = some q_1 := (congrFun ((gs_0 ne_8).2.2.2.2.2) 3).trans (up2_s _ _ _ _)
  have hL0 := hL
  have hz9 : (gR (gR (gN (g0 G q_1 7) q_1 2 0) q_1 0 (some t0)) a 3 (some q_1)).1 q_6 = 0 := g0_n hL nq_6
  replace hL := gL_new (a := q_6) (n := 7) hL
  have hP : va_P (dC, dI) cl ([] ++ va_pl (L ++ [q_1] ++ [q_6]) (gE cO (g0 (gR (gR (gN (g0 G q_1 7) q_1 2 0) q_1 0 (some t0)) a 3 (some q_1)) q_6 7))) H := hP
  have hD : va_D A ([] ++ va_pl (L ++ [q_1] ++ [q_6]) (gE cO (g0 (gR (gR (gN (g0 G q_1 7) q_1 2 0) q_1 0 (some t0)) a 3 (some q_1)) q_6 7))) := hD
  refine lv_dup hx hb d_Chip_init_19 rfl ?_
  refine wd_v (cx := []) (wr := []) (pl := va_pl (L ++ [q_1] ++ [q_6]) (gE cO (g0 (gR (gR (gN (g0 G q_1 7) q_1 2 0) q_1 0 (some t0)) a 3 (some q_1)) q_6 7))) (va_runI (As := []) (rest := [.ref q_6, .ref a]) ⟨hx, hb, hml, hown, hts⟩ (p_List_init l dC dI cB cI cL cZ cC cO (G := g0 (gR (gR (gN (g0 G q_1 7) q_1 2 0) q_1 0 (some t0)) a 3 (some q_1)) q_6 7) q_6 t0 _ hL (g0_q (gR (gR (gN (g0 G q_1 7) q_1 2 0) q_1 0 (some t0)) a 3 (some q_1)) q_6 7)) (cwI 0 hts (good_c k_93) rfl rfl rfl (hts _ k_7) (hts _ k_164) (hts _ k_92) rfl (by decide +kernel) ⟨Nat.le_of_ble_eq_true rfl, Nat.le_of_ble_eq_true rfl⟩) (wd_preS hK hP hD hS hA hF hE [] (by decide) rfl) rfl rfl hl.1 rfl (lv_room (Nat.le_of_ble_eq_true rfl)) d_Chip_init_20 ⟨Nat.le_of_ble_eq_true rfl, Nat.le_of_ble_eq_true rfl⟩) hP hD hS hA [] [] rfl rfl (by decide) (by decide) (fun _ H locs w_12 hP hD hS => ?_)
  have hP : va_P (dC, dI) cl ([] ++ va_pl (L ++ [q_1] ++ [q_6]) (gE cO (gR (gN (g0 (gR (gR (gN (g0 G q_1 7) q_1 2 0) q_1 0 (some t0)) a 3 (some q_1)) q_6 7) q_6 2 0) q_6 0 (some t0)))) H := hP
  have hD : va_D A ([] ++ va_pl (L ++ [q_1] ++ [q_6]) (gE cO (gR (gN (g0 (gR (gR (gN (g0 G q_1 7) q_1 2 0) q_1 0 (some t0)) a 3 (some q_1)) q_6 7) q_6 2 0) q_6 0 (some t0)))) := hD
  refine pq_putF (D := (dC, dI)) (ci := 6) (v := .ref q_6) (ty := .object "java/util/ArrayList") (C := R_Chip) (T := F_Chip) (N := 9) hx hb hts i_Chip t_Chip t_Chip_ok n_Chip hown hK hP hD hS (gL_m hL kf_7 (by decide)) (gE_6 (G := (gR (gN (g0 (gR (gR (gN (g0 G q_1 7) q_1 2 0) q_1 0 (some t0)) a 3 (some q_1)) q_6 7) q_6 2 0) q_6 0 (some t0))) kf_7) rfl 4 (by decide) (hts _ k_176) (fun _ h9 => h9) rfl hin rfl (by decide +kernel) rfl rfl (Nat.le_of_ble_eq_true rfl) (uE_6_4 (G := (gR (gN (g0 (gR (gR (gN (g0 G q_1 7) q_1 2 0) q_1 0 (some t0)) a 3 (some q_1)) q_6 7) q_6 2 0) q_6 0 (some t0))) (v := some q_6) kf_7) d_Chip_init_23 (fun H locs hP hD hS => ?_)
  have hP : va_P (dC, dI) cl ([] ++ va_pl (L ++ [q_1] ++ [q_6]) (gE cO (gR (gR (gN (g0 (gR (gR (gN (g0 G q_1 7) q_1 2 0) q_1 0 (some t0)) a 3 (some q_1)) q_6 7) q_6 2 0) q_6 0 (some t0)) a 4 (some q_6)))) H := hP
  have hD : va_D A ([] ++ va_pl (L ++ [q_1] ++ [q_6]) (gE cO (gR (gR (gN (g0 (gR (gR (gN (g0 G q_1 7) q_1 2 0) q_1 0 (some t0)) a 3 (some q_1)) q_6 7) q_6 2 0) q_6 0 (some t0)) a 4 (some q_6)))) := hD
  refine lv_aload_n hx hb d_Chip_init_26 rfl (lv_at hl 0 rfl) ?_
  refine pq_new (ci := 4) (fs := [.null, .int (nI 0), .int (nI 0)]) (C := R_List) (T := F_List) (N := 3) (fn := fun q9 => gE cO (g0 (gR (gR (gN (g0 (gR (gR (gN (g0 G q_1 7) q_1 2 0) q_1 0 (some t0)) a 3 (some q_1)) q_6 7) q_6 2 0) q_6 0 (some t0)) a 4 (some q_6)) q9 7)) hx hb hts i_List t_List t_List_ok hown (hts _ k_163) (hts _ k_90) (hts _ k_7) hK hP hD hS hA rfl (fun j hj => by rcases (show j = 0 ∨ j = 1 ∨ j = 2 by omega) with rfl | rfl | rfl <;> rfl) (Nat.le_of_ble_eq_true rfl) (Nat.le_of_ble_eq_true rfl) (fun q9 => nE_7 (G := (gR (gR (gN (g0 (gR (gR (gN (g0 G q_1 7) q_1 2 0) q_1 0 (some t0)) a 3 (some q_1)) q_6 7) q_6 2 0) q_6 0 (some t0)) a 4 (some q_6))) q9) d_Chip_init_27 (fun q_14 H nq_14 hP hD hS => ?_)
  have kf_15 : (g0 (gR (gR (gN (g0 (gR (gR (gN (g0 G q_1 7) q_1 2 0) q_1 0 (some t0)) a 3 (some q_1)) q_6 7) q_6 2 0) q_6 0 (some t0)) a 4 (some q_6)) q_14 7).1 a = 6 := (g0_k hL kf_7 (by decide) nq_14)
  have ne_16 : a ≠ q_14 := g0_ne hL kf_7 (by decide) nq_14
  have kf_17 : (g0 (gR (gR (gN (g0 (gR (gR (gN (g0 G q_1 7) q_1 2 0) q_1 0 (some t0)) a 3 (some q_1)) q_6 7) q_6 2 0) q_6 0 (some t0)) a 4 (some q_6)) q_14 7).1 q_1 = 7 := (g0_k hL kf_9 (by decide) nq_14)
  have ne_18 : q_1 ≠ q_14 := g0_ne hL kf_9 (by decide) nq_14
  have kf_19 : (g0 (gR (gR (gN (g0 (gR (gR (gN (g0 G q_1 7) q_1 2 0) q_1 0 (some t0)) a 3 (some q_1)) q_6 7) q_6 2 0) q_6 0 (some t0)) a 4 (some q_6)) q_14 7).1 q_6 = 7 := (g0_k hL (g0_q (gR (gR (gN (g0 G q_1 7) q_1 2 0) q_1 0 (some t0)) a 3 (some q_1)) q_6 7) (by decide) nq_14)
  have ne_20 : q_6 ≠ q_14 := g0_ne hL (g0_q (gR (gR (gN (g0 G q_1 7) q_1 2 0) q_1 0 (some t0)) a 3 (some q_1)) q_6 7) (by decide) nq_14
  have fa_21 : (g0 (gR (gR (gN (g0 (gR (gR (gN (g0 G q_1 7) q_1 2 0) q_1 0 (some t0)) a 3 (some q_1)) q_6 7) q_6 2 0) q_6 0 (some t0)) a 4 (some q_6)) q_14 7).2.2.2.2.2 a 4 = some q_6 := (congrFun ((gs_0 ne_16).2.2.2.2.2) 4).trans (up2_s _ _ _ _)
  have hL0 := hL
  have hz9 : (gR (gR (gN (g0 (gR (gR (gN (g0 G q_1 7) q_1 2 0) q_1 0 (some t0)) a 3 (some q_1)) q_6 7) q_6 2 0) q_6 0 (some t0)) a 4 (some q_6)).1 q_14 = 0 := g0_n hL nq_14
  replace hL := gL_new (a := q_14) (n := 7) hL
  have hP : va_P (dC, dI) cl ([] ++ va_pl (L ++ [q_1] ++ [q_6] ++ [q_14]) (gE cO (g0 (gR (gR (gN (g0 (gR (gR (gN (g0 G q_1 7) q_1 2 0) q_1 0 (some t0)) a 3 (some q_1)) q_6 7) q_6 2 0) q_6 0 (some t0)) a 4 (some q_6)) q_14 7))) H := hP
  have hD : va_D A ([] ++ va_pl (L ++ [q_1] ++ [q_6] ++ [q_14]) (gE cO (g0 (gR (gR (gN (g0 (gR (gR (gN (g0 G q_1 7) q_1 2 0) q_1 0 (some t0)) a 3 (some q_1)) q_6 7) q_6 2 0) q_6 0 (some t0)) a 4 (some q_6)) q_14 7))) := hD
  refine lv_dup hx hb d_Chip_init_30 rfl ?_
  refine wd_v (cx := []) (wr := []) (pl := va_pl (L ++ [q_1] ++ [q_6] ++ [q_14]) (gE cO (g0 (gR (gR (gN (g0 (gR (gR (gN (g0 G q_1 7) q_1 2 0) q_1 0 (some t0)) a 3 (some q_1)) q_6 7) q_6 2 0) q_6 0 (some t0)) a 4 (some q_6)) q_14 7))) (va_runI (As := []) (rest := [.ref q_14, .ref a]) ⟨hx, hb, hml, hown, hts⟩ (p_List_init l dC dI cB cI cL cZ cC cO (G := g0 (gR (gR (gN (g0 (gR (gR (gN (g0 G q_1 7) q_1 2 0) q_1 0 (some t0)) a 3 (some q_1)) q_6 7) q_6 2 0) q_6 0 (some t0)) a 4 (some q_6)) q_14 7) q_14 t0 _ hL (g0_q (gR (gR (gN (g0 (gR (gR (gN (g0 G q_1 7) q_1 2 0) q_1 0 (some t0)) a 3 (some q_1)) q_6 7) q_6 2 0) q_6 0 (some t0)) a 4 (some q_6)) q_14 7)) (cwI 0 hts (good_c k_93) rfl rfl rfl (hts _ k_7) (hts _ k_164) (hts _ k_92) rfl (by decide +kernel) ⟨Nat.le_of_ble_eq_true rfl, Nat.le_of_ble_eq_true rfl⟩) (wd_preS hK hP hD hS hA hF hE [] (by decide) rfl) rfl rfl hl.1 rfl (lv_room (Nat.le_of_ble_eq_true rfl)) d_Chip_init_31 ⟨Nat.le_of_ble_eq_true rfl, Nat.le_of_ble_eq_true rfl⟩) hP hD hS hA [] [] rfl rfl (by decide) (by decide) (fun _ H locs w_22 hP hD hS => ?_)
  have hP : va_P (dC, dI) cl ([] ++ va_pl (L ++ [q_1] ++ [q_6] ++ [q_14]) (gE cO (gR (gN (g0 (gR (gR (gN (g0 (gR (gR (gN (g0 G q_1 7) q_1 2 0) q_1 0 (some t0)) a 3 (some q_1)) q_6 7) q_6 2 0) q_6 0 (some t0)) a 4 (some q_6)) q_14 7) q_14 2 0) q_14 0 (some t0)))) H := hP
  have hD : va_D A ([] ++ va_pl (L ++ [q_1] ++ [q_6] ++ [q_14]) (gE cO (gR (gN (g0 (gR (gR (gN (g0 (gR (gR (gN (g0 G q_1 7) q_1 2 0) q_1 0 (some t0)) a 3 (some q_1)) q_6 7) q_6 2 0) q_6 0 (some t0)) a 4 (some q_6)) q_14 7) q_14 2 0) q_14 0 (some t0)))) := hD
  refine pq_putF (D := (dC, dI)) (ci := 6) (v := .ref q_14) (ty := .object "java/util/ArrayList") (C := R_Chip) (T := F_Chip) (N := 9) hx hb hts i_Chip t_Chip t_Chip_ok n_Chip hown hK hP hD hS (gL_m hL kf_15 (by decide)) (gE_6 (G := (gR (gN (g0 (gR (gR (gN (g0 (gR (gR (gN (g0 G q_1 7) q_1 2 0) q_1 0 (some t0)) a 3 (some q_1)) q_6 7) q_6 2 0) q_6 0 (some t0)) a 4 (some q_6)) q_14 7) q_14 2 0) q_14 0 (some t0))) kf_15) rfl 5 (by decide) (hts _ k_178) (fun _ h9 => h9) rfl hin rfl (by decide +kernel) rfl rfl (Nat.le_of_ble_eq_true rfl) (uE_6_5 (G := (gR (gN (g0 (gR (gR (gN (g0 (gR (gR (gN (g0 G q_1 7) q_1 2 0) q_1 0 (some t0)) a 3 (some q_1)) q_6 7) q_6 2 0) q_6 0 (some t0)) a 4 (some q_6)) q_14 7) q_14 2 0) q_14 0 (some t0))) (v := some q_14) kf_15) d_Chip_init_34 (fun H locs hP hD hS => ?_)
  have hP : va_P (dC, dI) cl ([] ++ va_pl (L ++ [q_1] ++ [q_6] ++ [q_14]) (gE cO (gR (gR (gN (g0 (gR (gR (gN (g0 (gR (gR (gN (g0 G q_1 7) q_1 2 0) q_1 0 (some t0)) a 3 (some q_1)) q_6 7) q_6 2 0) q_6 0 (some t0)) a 4 (some q_6)) q_14 7) q_14 2 0) q_14 0 (some t0)) a 5 (some q_14)))) H := hP
  have hD : va_D A ([] ++ va_pl (L ++ [q_1] ++ [q_6] ++ [q_14]) (gE cO (gR (gR (gN (g0 (gR (gR (gN (g0 (gR (gR (gN (g0 G q_1 7) q_1 2 0) q_1 0 (some t0)) a 3 (some q_1)) q_6 7) q_6 2 0) q_6 0 (some t0)) a 4 (some q_6)) q_14 7) q_14 2 0) q_14 0 (some t0)) a 5 (some q_14)))) := hD
  refine lv_aload_n hx hb d_Chip_init_37 rfl (lv_at hl 0 rfl) ?_
  refine lv_iconst (v := nI 0) hx hb d_Chip_init_38 (by decide) ?_
  refine pq_put (D := (dC, dI)) (ci := 6) (v := .int (nI 0)) (ty := .int) (C := R_Chip) (T := F_Chip) (N := 9) hx hb hts i_Chip t_Chip t_Chip_ok n_Chip hown hK hP hD hS (gL_m hL kf_15 (by decide)) (gE_6 (G := (gR (gR (gN (g0 (gR (gR (gN (g0 (gR (gR (gN (g0 G q_1 7) q_1 2 0) q_1 0 (some t0)) a 3 (some q_1)) q_6 7) q_6 2 0) q_6 0 (some t0)) a 4 (some q_6)) q_14 7) q_14 2 0) q_14 0 (some t0)) a 5 (some q_14))) kf_15) rfl 6 (by decide) (hts _ k_182) (fun _ h9 => h9) rfl (by decide +kernel) rfl rfl (Nat.le_of_ble_eq_true rfl) (uE_6_6 (G := (gR (gR (gN (g0 (gR (gR (gN (g0 (gR (gR (gN (g0 G q_1 7) q_1 2 0) q_1 0 (some t0)) a 3 (some q_1)) q_6 7) q_6 2 0) q_6 0 (some t0)) a 4 (some q_6)) q_14 7) q_14 2 0) q_14 0 (some t0)) a 5 (some q_14))) (v := 0) kf_15) d_Chip_init_39 (fun H locs hP hD hS => ?_)
  have hP : va_P (dC, dI) cl ([] ++ va_pl (L ++ [q_1] ++ [q_6] ++ [q_14]) (gE cO (gN (gR (gR (gN (g0 (gR (gR (gN (g0 (gR (gR (gN (g0 G q_1 7) q_1 2 0) q_1 0 (some t0)) a 3 (some q_1)) q_6 7) q_6 2 0) q_6 0 (some t0)) a 4 (some q_6)) q_14 7) q_14 2 0) q_14 0 (some t0)) a 5 (some q_14)) a 6 0))) H := hP
  have hD : va_D A ([] ++ va_pl (L ++ [q_1] ++ [q_6] ++ [q_14]) (gE cO (gN (gR (gR (gN (g0 (gR (gR (gN (g0 (gR (gR (gN (g0 G q_1 7) q_1 2 0) q_1 0 (some t0)) a 3 (some q_1)) q_6 7) q_6 2 0) q_6 0 (some t0)) a 4 (some q_6)) q_14 7) q_14 2 0) q_14 0 (some t0)) a 5 (some q_14)) a 6 0))) := hD
  refine lv_aload_n hx hb d_Chip_init_42 rfl (lv_at hl 0 rfl) ?_
  refine lv_iconst (v := nI 0) hx hb d_Chip_init_43 (by decide) ?_
  refine pq_put (D := (dC, dI)) (ci := 6) (v := .int (nI 0)) (ty := .int) (C := R_Chip) (T := F_Chip) (N := 9) hx hb hts i_Chip t_Chip t_Chip_ok n_Chip hown hK hP hD hS (gL_m hL kf_15 (by decide)) (gE_6 (G := (gN (gR (gR (gN (g0 (gR (gR (gN (g0 (gR (gR (gN (g0 G q_1 7) q_1 2 0) q_1 0 (some t0)) a 3 (some q_1)) q_6 7) q_6 2 0) q_6 0 (some t0)) a 4 (some q_6)) q_14 7) q_14 2 0) q_14 0 (some t0)) a 5 (some q_14)) a 6 0)) kf_15) rfl 7 (by decide) (hts _ k_184) (fun _ h9 => h9) rfl (by decide +kernel) rfl rfl (Nat.le_of_ble_eq_true rfl) (uE_6_7 (G := (gN (gR (gR (gN (g0 (gR (gR (gN (g0 (gR (gR (gN (g0 G q_1 7) q_1 2 0) q_1 0 (some t0)) a 3 (some q_1)) q_6 7) q_6 2 0) q_6 0 (some t0)) a 4 (some q_6)) q_14 7) q_14 2 0) q_14 0 (some t0)) a 5 (some q_14)) a 6 0)) (v := 0) kf_15) d_Chip_init_44 (fun H locs hP hD hS => ?_)
  have hP : va_P (dC, dI) cl ([] ++ va_pl (L ++ [q_1] ++ [q_6] ++ [q_14]) (gE cO (gN (gN (gR (gR (gN (g0 (gR (gR (gN (g0 (gR (gR (gN (g0 G q_1 7) q_1 2 0) q_1 0 (some t0)) a 3 (some q_1)) q_6 7) q_6 2 0) q_6 0 (some t0)) a 4 (some q_6)) q_14 7) q_14 2 0) q_14 0 (some t0)) a 5 (some q_14)) a 6 0) a 7 0))) H := hP
  have hD : va_D A ([] ++ va_pl (L ++ [q_1] ++ [q_6] ++ [q_14]) (gE cO (gN (gN (gR (gR (gN (g0 (gR (gR (gN (g0 (gR (gR (gN (g0 G q_1 7) q_1 2 0) q_1 0 (some t0)) a 3 (some q_1)) q_6 7) q_6 2 0) q_6 0 (some t0)) a 4 (some q_6)) q_14 7) q_14 2 0) q_14 0 (some t0)) a 5 (some q_14)) a 6 0) a 7 0))) := hD
  refine lv_aload_n hx hb d_Chip_init_47 rfl (lv_at hl 0 rfl) ?_
  refine lv_iconst (v := nI 0) hx hb d_Chip_init_48 (by decide) ?_
  refine pq_put (D := (dC, dI)) (ci := 6) (v := .int (nI 0)) (ty := .int) (C := R_Chip) (T := F_Chip) (N := 9) hx hb hts i_Chip t_Chip t_Chip_ok n_Chip hown hK hP hD hS (gL_m hL kf_15 (by decide)) (gE_6 (G := (gN (gN (gR (gR (gN (g0 (gR (gR (gN (g0 (gR (gR (gN (g0 G q_1 7) q_1 2 0) q_1 0 (some t0)) a 3 (some q_1)) q_6 7) q_6 2 0) q_6 0 (some t0)) a 4 (some q_6)) q_14 7) q_14 2 0) q_14 0 (some t0)) a 5 (some q_14)) a 6 0) a 7 0)) kf_15) rfl 8 (by decide) (hts _ k_186) (fun _ h9 => h9) rfl (by decide +kernel) rfl rfl (Nat.le_of_ble_eq_true rfl) (uE_6_8 (G := (gN (gN (gR (gR (gN (g0 (gR (gR (gN (g0 (gR (gR (gN (g0 G q_1 7) q_1 2 0) q_1 0 (some t0)) a 3 (some q_1)) q_6 7) q_6 2 0) q_6 0 (some t0)) a 4 (some q_6)) q_14 7) q_14 2 0) q_14 0 (some t0)) a 5 (some q_14)) a 6 0) a 7 0)) (v := 0) kf_15) d_Chip_init_49 (fun H locs hP hD hS => ?_)
  have hP : va_P (dC, dI) cl ([] ++ va_pl (L ++ [q_1] ++ [q_6] ++ [q_14]) (gE cO (gN (gN (gN (gR (gR (gN (g0 (gR (gR (gN (g0 (gR (gR (gN (g0 G q_1 7) q_1 2 0) q_1 0 (some t0)) a 3 (some q_1)) q_6 7) q_6 2 0) q_6 0 (some t0)) a 4 (some q_6)) q_14 7) q_14 2 0) q_14 0 (some t0)) a 5 (some q_14)) a 6 0) a 7 0) a 8 0))) H := hP
  have hD : va_D A ([] ++ va_pl (L ++ [q_1] ++ [q_6] ++ [q_14]) (gE cO (gN (gN (gN (gR (gR (gN (g0 (gR (gR (gN (g0 (gR (gR (gN (g0 G q_1 7) q_1 2 0) q_1 0 (some t0)) a 3 (some q_1)) q_6 7) q_6 2 0) q_6 0 (some t0)) a 4 (some q_6)) q_14 7) q_14 2 0) q_14 0 (some t0)) a 5 (some q_14)) a 6 0) a 7 0) a 8 0))) := hD
  refine lv_aload_n hx hb d_Chip_init_52 rfl (lv_at hl 0 rfl) ?_
  refine lv_aload_n hx hb d_Chip_init_53 rfl (lv_at hl 1 rfl) ?_
  refine pq_putF (D := (dC, dI)) (ci := 6) (v := .ref nm) (ty := .object "ChipDesk$Name") (C := R_Chip) (T := F_Chip) (N := 9) hx hb hts i_Chip t_Chip t_Chip_ok n_Chip hown hK hP hD hS (gL_m hL kf_15 (by decide)) (gE_6 (G := (gN (gN (gN (gR (gR (gN (g0 (gR (gR (gN (g0 (gR (gR (gN (g0 G q_1 7) q_1 2 0) q_1 0 (some t0)) a 3 (some q_1)) q_6 7) q_6 2 0) q_6 0 (some t0)) a 4 (some q_6)) q_14 7) q_14 2 0) q_14 0 (some t0)) a 5 (some q_14)) a 6 0) a 7 0) a 8 0)) kf_15) rfl 0 (by decide) (hts _ k_165) (fun _ h9 => h9) rfl hin rfl (by decide +kernel) rfl rfl (Nat.le_of_ble_eq_true rfl) (uE_6_0 (G := (gN (gN (gN (gR (gR (gN (g0 (gR (gR (gN (g0 (gR (gR (gN (g0 G q_1 7) q_1 2 0) q_1 0 (some t0)) a 3 (some q_1)) q_6 7) q_6 2 0) q_6 0 (some t0)) a 4 (some q_6)) q_14 7) q_14 2 0) q_14 0 (some t0)) a 5 (some q_14)) a 6 0) a 7 0) a 8 0)) (v := some nm) kf_15) d_Chip_init_54 (fun H locs hP hD hS => ?_)
  have hP : va_P (dC, dI) cl ([] ++ va_pl (L ++ [q_1] ++ [q_6] ++ [q_14]) (gE cO (gR (gN (gN (gN (gR (gR (gN (g0 (gR (gR (gN (g0 (gR (gR (gN (g0 G q_1 7) q_1 2 0) q_1 0 (some t0)) a 3 (some q_1)) q_6 7) q_6 2 0) q_6 0 (some t0)) a 4 (some q_6)) q_14 7) q_14 2 0) q_14 0 (some t0)) a 5 (some q_14)) a 6 0) a 7 0) a 8 0) a 0 (some nm)))) H := hP
  have hD : va_D A ([] ++ va_pl (L ++ [q_1] ++ [q_6] ++ [q_14]) (gE cO (gR (gN (gN (gN (gR (gR (gN (g0 (gR (gR (gN (g0 (gR (gR (gN (g0 G q_1 7) q_1 2 0) q_1 0 (some t0)) a 3 (some q_1)) q_6 7) q_6 2 0) q_6 0 (some t0)) a 4 (some q_6)) q_14 7) q_14 2 0) q_14 0 (some t0)) a 5 (some q_14)) a 6 0) a 7 0) a 8 0) a 0 (some nm)))) := hD
  refine lv_aload_n hx hb d_Chip_init_57 rfl (lv_at hl 0 rfl) ?_
  refine lv_iload_n hx hb d_Chip_init_58 rfl (lv_at hl 2 rfl) ?_
  refine pq_putF (D := (dC, dI)) (ci := 6) (v := .int (nI gt)) (ty := .int) (C := R_Chip) (T := F_Chip) (N := 9) hx hb hts i_Chip t_Chip t_Chip_ok n_Chip hown hK hP hD hS (gL_m hL kf_15 (by decide)) (gE_6 (G := (gR (gN (gN (gN (gR (gR (gN (g0 (gR (gR (gN (g0 (gR (gR (gN (g0 G q_1 7) q_1 2 0) q_1 0 (some t0)) a 3 (some q_1)) q_6 7) q_6 2 0) q_6 0 (some t0)) a 4 (some q_6)) q_14 7) q_14 2 0) q_14 0 (some t0)) a 5 (some q_14)) a 6 0) a 7 0) a 8 0) a 0 (some nm))) kf_15) rfl 1 (by decide) (hts _ k_167) (fun _ h9 => h9) rfl hin rfl (by decide +kernel) rfl rfl (Nat.le_of_ble_eq_true rfl) (uE_6_1 (G := (gR (gN (gN (gN (gR (gR (gN (g0 (gR (gR (gN (g0 (gR (gR (gN (g0 G q_1 7) q_1 2 0) q_1 0 (some t0)) a 3 (some q_1)) q_6 7) q_6 2 0) q_6 0 (some t0)) a 4 (some q_6)) q_14 7) q_14 2 0) q_14 0 (some t0)) a 5 (some q_14)) a 6 0) a 7 0) a 8 0) a 0 (some nm))) (v := gt) kf_15) d_Chip_init_59 (fun H locs hP hD hS => ?_)
  have hP : va_P (dC, dI) cl ([] ++ va_pl (L ++ [q_1] ++ [q_6] ++ [q_14]) (gE cO (gN (gR (gN (gN (gN (gR (gR (gN (g0 (gR (gR (gN (g0 (gR (gR (gN (g0 G q_1 7) q_1 2 0) q_1 0 (some t0)) a 3 (some q_1)) q_6 7) q_6 2 0) q_6 0 (some t0)) a 4 (some q_6)) q_14 7) q_14 2 0) q_14 0 (some t0)) a 5 (some q_14)) a 6 0) a 7 0) a 8 0) a 0 (some nm)) a 1 gt))) H := hP
  have hD : va_D A ([] ++ va_pl (L ++ [q_1] ++ [q_6] ++ [q_14]) (gE cO (gN (gR (gN (gN (gN (gR (gR (gN (g0 (gR (gR (gN (g0 (gR (gR (gN (g0 G q_1 7) q_1 2 0) q_1 0 (some t0)) a 3 (some q_1)) q_6 7) q_6 2 0) q_6 0 (some t0)) a 4 (some q_6)) q_14 7) q_14 2 0) q_14 0 (some t0)) a 5 (some q_14)) a 6 0) a 7 0) a 8 0) a 0 (some nm)) a 1 gt))) := hD
  refine lv_aload_n hx hb d_Chip_init_62 rfl (lv_at hl 0 rfl) ?_
  refine lv_iload_n hx hb d_Chip_init_63 rfl (lv_at hl 3 rfl) ?_
  refine pq_putF (D := (dC, dI)) (ci := 6) (v := .int (nI ix)) (ty := .int) (C := R_Chip) (T := F_Chip) (N := 9) hx hb hts i_Chip t_Chip t_Chip_ok n_Chip hown hK hP hD hS (gL_m hL kf_15 (by decide)) (gE_6 (G := (gN (gR (gN (gN (gN (gR (gR (gN (g0 (gR (gR (gN (g0 (gR (gR (gN (g0 G q_1 7) q_1 2 0) q_1 0 (some t0)) a 3 (some q_1)) q_6 7) q_6 2 0) q_6 0 (some t0)) a 4 (some q_6)) q_14 7) q_14 2 0) q_14 0 (some t0)) a 5 (some q_14)) a 6 0) a 7 0) a 8 0) a 0 (some nm)) a 1 gt)) kf_15) rfl 2 (by decide) (hts _ k_170) (fun _ h9 => h9) rfl hin rfl (by decide +kernel) rfl rfl (Nat.le_of_ble_eq_true rfl) (uE_6_2 (G := (gN (gR (gN (gN (gN (gR (gR (gN (g0 (gR (gR (gN (g0 (gR (gR (gN (g0 G q_1 7) q_1 2 0) q_1 0 (some t0)) a 3 (some q_1)) q_6 7) q_6 2 0) q_6 0 (some t0)) a 4 (some q_6)) q_14 7) q_14 2 0) q_14 0 (some t0)) a 5 (some q_14)) a 6 0) a 7 0) a 8 0) a 0 (some nm)) a 1 gt)) (v := ix) kf_15) d_Chip_init_64 (fun H locs hP hD hS => ?_)
  have hP : va_P (dC, dI) cl ([] ++ va_pl (L ++ [q_1] ++ [q_6] ++ [q_14]) (gE cO (gN (gN (gR (gN (gN (gN (gR (gR (gN (g0 (gR (gR (gN (g0 (gR (gR (gN (g0 G q_1 7) q_1 2 0) q_1 0 (some t0)) a 3 (some q_1)) q_6 7) q_6 2 0) q_6 0 (some t0)) a 4 (some q_6)) q_14 7) q_14 2 0) q_14 0 (some t0)) a 5 (some q_14)) a 6 0) a 7 0) a 8 0) a 0 (some nm)) a 1 gt) a 2 ix))) H := hP
  have hD : va_D A ([] ++ va_pl (L ++ [q_1] ++ [q_6] ++ [q_14]) (gE cO (gN (gN (gR (gN (gN (gN (gR (gR (gN (g0 (gR (gR (gN (g0 (gR (gR (gN (g0 G q_1 7) q_1 2 0) q_1 0 (some t0)) a 3 (some q_1)) q_6 7) q_6 2 0) q_6 0 (some t0)) a 4 (some q_6)) q_14 7) q_14 2 0) q_14 0 (some t0)) a 5 (some q_14)) a 6 0) a 7 0) a 8 0) a 0 (some nm)) a 1 gt) a 2 ix))) := hD
  exact wr_v hx hb hr hlocks (q_1, q_6, q_14) ⟨nq_1, nq_6, nq_14⟩ hK hP hD hS d_Chip_init_67
def sof (G : PG) (a w : Nat) : PG := if G.2.1 w 1 = 0 then gN (gN (gN G w 4 (G.2.1 a 8)) a 8 (G.2.1 a 8 + G.2.1 w 2)) a 7 (G.2.1 a 8 + G.2.1 w 2) else gN (gN G w 4 (G.2.1 a 8)) a 8 (G.2.1 a 8 + G.2.1 w 2)
theorem d_Chip_setOffset_0 : decode b_Chip_setOffset 0 = .ok (.aload_n 1, 1) := by decide +kernel
theorem d_Chip_setOffset_1 : decode b_Chip_setOffset 1 = .ok (.aload_n 0, 1) := by decide +kernel
theorem d_Chip_setOffset_2 : decode b_Chip_setOffset 2 = .ok (.getfield 29, 3) := by decide +kernel
theorem d_Chip_setOffset_5 : decode b_Chip_setOffset 5 = .ok (.putfield 106, 3) := by decide +kernel
theorem d_Chip_setOffset_8 : decode b_Chip_setOffset 8 = .ok (.aload_n 0, 1) := by decide +kernel
theorem d_Chip_setOffset_9 : decode b_Chip_setOffset 9 = .ok (.dup, 1) := by decide +kernel
theorem d_Chip_setOffset_10 : decode b_Chip_setOffset 10 = .ok (.getfield 29, 3) := by decide +kernel
theorem d_Chip_setOffset_13 : decode b_Chip_setOffset 13 = .ok (.aload_n 1, 1) := by decide +kernel
theorem d_Chip_setOffset_14 : decode b_Chip_setOffset 14 = .ok (.getfield 109, 3) := by decide +kernel
theorem d_Chip_setOffset_17 : decode b_Chip_setOffset 17 = .ok (.iadd, 1) := by decide +kernel
theorem d_Chip_setOffset_18 : decode b_Chip_setOffset 18 = .ok (.putfield 29, 3) := by decide +kernel
theorem d_Chip_setOffset_21 : decode b_Chip_setOffset 21 = .ok (.aload_n 1, 1) := by decide +kernel
theorem d_Chip_setOffset_22 : decode b_Chip_setOffset 22 = .ok (.getfield 84, 3) := by decide +kernel
theorem d_Chip_setOffset_25 : decode b_Chip_setOffset 25 = .ok (.ifCond .ne 11, 3) := by decide +kernel
theorem d_Chip_setOffset_28 : decode b_Chip_setOffset 28 = .ok (.aload_n 0, 1) := by decide +kernel
theorem d_Chip_setOffset_29 : decode b_Chip_setOffset 29 = .ok (.aload_n 0, 1) := by decide +kernel
theorem d_Chip_setOffset_30 : decode b_Chip_setOffset 30 = .ok (.getfield 29, 3) := by decide +kernel
theorem d_Chip_setOffset_33 : decode b_Chip_setOffset 33 = .ok (.putfield 26, 3) := by decide +kernel
theorem d_Chip_setOffset_36 : decode b_Chip_setOffset 36 = .ok (.return_, 1) := by decide +kernel
set_option maxHeartbeats 4000000 in
set_option maxRecDepth 100000 in
/-- setOffset(wire) -/
theorem p_Chip_setOffset (l : Launch) (dC : Nat → ClassId) (dI : Nat → Nat → Nat) (cB cI cL cZ cC cO : ClassId) {L : List Nat} {G : PG} (a w : Nat) (t0 sz : Nat) (hL : gL L G) (ha : G.1 a = 6) (hw : G.1 w = 2) (hk : G.2.1 w 1 < 3) : Met l y_Chip_setOffset w_Chip_setOffset ({ frames := 0, cells := 0, slots := 0, locals := 0 }) (va_Pc [.ref a, .ref w] (wB2 (dC, dI) cl [(cB, .byte), (cI, .int), (cL, .long), (cZ, .boolean), (cC, .char), (cO, .object "java/lang/Object")] sz t0 ([] ++ va_pl L (gE cO G)))) (va_Qv (fun (u : PG) => u = sof G a w) (fun u t => wA (dC, dI) cl [(cB, .byte), (cI, .int), (cL, .long), (cZ, .boolean), (cC, .char), (cO, .object "java/lang/Object")] (va_A ([] ++ va_pl L (gE cO G)) sz) ([] ++ va_pl L (gE cO u)) t) (va_A ([] ++ va_pl L (gE cO G)) sz)) 0 0 (va_A ([] ++ va_pl L (gE cO G)) sz) := by
  refine Met.ofW (cc := b_Chip_setOffset) (maxL := 2) (ret := none) (by decide) rfl ?_
  intro p e s m args below meth c s₁ B hml hv
  obtain ⟨rfl, ⟨hsz, hP, hK, hD0, hF⟩, hE⟩ := hv
  have hx := B.exec
  have hb := B.bytes
  have hr := B.returns
  have hts := atoms_spec (ws := w_Chip_setOffset) B.pre
  have hts : ∀ w ∈ tb, w.before _ s = true := fun w h => hts w (List.mem_cons_of_mem _ h)
  have hown : s.vm.findClass R_Chip = some m.cls := findClass_of_methodNamed B.named
  have hlocks := B.notSynchronized
  subst hsz
  have hD := hD0.self (sz := s.heap.size)
  generalize hAe : va_A ([] ++ va_pl L (gE cO G)) s.heap.size = A at hD hF hE ⊢
  have hA : ∀ q : Nat, s.heap.size ≤ q → A q := fun q h => by rw [← hAe]; exact Or.inr h
  have hS : va_S A s.heap s.heap [] := va_S.rf
  have hP : va_P (dC, dI) cl ([] ++ va_pl L (gE cO G)) s.heap := hP
  have hl := lv_entry ([.ref a, .ref w]) (n := 2) (Nat.le_of_ble_eq_true rfl)
  rw [lg_entry_eq]
  generalize (lg_sl ([.ref a, .ref w]) ++ List.replicate (2 - (lg_sl ([.ref a, .ref w])).length) Slot.unset).toArray = ls at hl ⊢
  have hl : lv_has ls 2 [(0, .ref a), (1, .ref w)] := hl
  refine lv_aload_n hx hb d_Chip_setOffset_0 rfl (lv_at hl 1 rfl) ?_
  refine lv_aload_n hx hb d_Chip_setOffset_1 rfl (lv_at hl 0 rfl) ?_
  refine pq_get (D := (dC, dI)) (ci := 6) (v := .int (nI (G.2.1 a 8))) (C := R_Chip) (T := F_Chip) (N := 9) hx hb hts i_Chip hown hK hP (gL_m hL ha (by decide)) (gE_6 (G := G) ha) rfl 8 (by decide) (hts _ k_186) (fun _ h9 => h9) (congrArg (fun z9 => some (Value.int (nI z9))) rfl) d_Chip_setOffset_2 ?_
  refine pq_put (D := (dC, dI)) (ci := 8) (v := .int (nI (G.2.1 a 8))) (ty := .int) (C := R_Wire) (T := F_Wire) (N := 7) hx hb hts i_Wire t_Wire t_Wire_ok n_Wire hown hK hP hD hS (gL_m hL hw (by decide)) (gE_2 (G := G) hw) rfl 4 (by decide) (hts _ k_229) (fun _ h9 => h9) rfl (by decide +kernel) rfl rfl (Nat.le_of_ble_eq_true rfl) (uE_2_4 (G := G) (v := G.2.1 a 8) hw) d_Chip_setOffset_5 (fun H locs hP hD hS => ?_)
  have hP : va_P (dC, dI) cl ([] ++ va_pl L (gE cO (gN G w 4 (G.2.1 a 8)))) H := hP
  have hD : va_D A ([] ++ va_pl L (gE cO (gN G w 4 (G.2.1 a 8)))) := hD
  refine lv_aload_n hx hb d_Chip_setOffset_8 rfl (lv_at hl 0 rfl) ?_
  refine lv_dup hx hb d_Chip_setOffset_9 rfl ?_
  refine pq_get (D := (dC, dI)) (ci := 6) (v := .int (nI (G.2.1 a 8))) (C := R_Chip) (T := F_Chip) (N := 9) hx hb hts i_Chip hown hK hP (gL_m hL ha (by decide)) (gE_6 (G := (gN G w 4 (G.2.1 a 8))) ha) rfl 8 (by decide) (hts _ k_186) (fun _ h9 => h9) (congrArg (fun z9 => some (Value.int (nI z9))) ((up2_k _ _ _ _ (by decide)).trans rfl)) d_Chip_setOffset_10 ?_
  refine lv_aload_n hx hb d_Chip_setOffset_13 rfl (lv_at hl 1 rfl) ?_
  refine pq_get (D := (dC, dI)) (ci := 8) (v := .int (nI (G.2.1 w 2))) (C := R_Wire) (T := F_Wire) (N := 7) hx hb hts i_Wire hown hK hP (gL_m hL hw (by decide)) (gE_2 (G := (gN G w 4 (G.2.1 a 8))) hw) rfl 2 (by decide) (hts _ k_224) (fun _ h9 => h9) (congrArg (fun z9 => some (Value.int (nI z9))) ((up2_k _ _ _ _ (by decide)).trans rfl)) d_Chip_setOffset_14 ?_
  refine nv_iadd hx hb d_Chip_setOffset_17 ?_
  refine pq_put (D := (dC, dI)) (ci := 6) (v := .int (nI ((G.2.1 a 8) + (G.2.1 w 2)))) (ty := .int) (C := R_Chip) (T := F_Chip) (N := 9) hx hb hts i_Chip t_Chip t_Chip_ok n_Chip hown hK hP hD hS (gL_m hL ha (by decide)) (gE_6 (G := (gN G w 4 (G.2.1 a 8))) ha) rfl 8 (by decide) (hts _ k_186) (fun _ h9 => h9) rfl (by decide +kernel) rfl rfl (Nat.le_of_ble_eq_true rfl) (uE_6_8 (G := (gN G w 4 (G.2.1 a 8))) (v := (G.2.1 a 8) + (G.2.1 w 2)) ha) d_Chip_setOffset_18 (fun H locs hP hD hS => ?_)
  have hP : va_P (dC, dI) cl ([] ++ va_pl L (gE cO (gN (gN G w 4 (G.2.1 a 8)) a 8 ((G.2.1 a 8) + (G.2.1 w 2))))) H := hP
  have hD : va_D A ([] ++ va_pl L (gE cO (gN (gN G w 4 (G.2.1 a 8)) a 8 ((G.2.1 a 8) + (G.2.1 w 2))))) := hD
  refine lv_aload_n hx hb d_Chip_setOffset_21 rfl (lv_at hl 1 rfl) ?_
  refine pq_get (D := (dC, dI)) (ci := 8) (v := .int (nI (G.2.1 w 1))) (C := R_Wire) (T := F_Wire) (N := 7) hx hb hts i_Wire hown hK hP (gL_m hL hw (by decide)) (gE_2 (G := (gN (gN G w 4 (G.2.1 a 8)) a 8 ((G.2.1 a 8) + (G.2.1 w 2)))) hw) rfl 1 (by decide) (hts _ k_218) (fun _ h9 => h9) (congrArg (fun z9 => some (Value.int (nI z9))) ((up2_k _ _ _ _ (by decide)).trans ((up2_k _ _ _ _ (by decide)).trans rfl))) d_Chip_setOffset_22 ?_
  refine nv_if_ne (tgt := 36) hx hb (by omega) d_Chip_setOffset_25 (by decide) (fun c_1 => ?_) (fun c_1 => ?_)
  · exact wr_v hx hb hr hlocks (gN (gN G w 4 (G.2.1 a 8)) a 8 ((G.2.1 a 8) + (G.2.1 w 2))) (by unfold sof; rw [if_neg c_1]) hK hP hD hS d_Chip_setOffset_36
  · refine lv_aload_n hx hb d_Chip_setOffset_28 rfl (lv_at hl 0 rfl) ?_
    refine lv_aload_n hx hb d_Chip_setOffset_29 rfl (lv_at hl 0 rfl) ?_
    refine pq_get (D := (dC, dI)) (ci := 6) (v := .int (nI ((G.2.1 a 8) + (G.2.1 w 2)))) (C := R_Chip) (T := F_Chip) (N := 9) hx hb hts i_Chip hown hK hP (gL_m hL ha (by decide)) (gE_6 (G := (gN (gN G w 4 (G.2.1 a 8)) a 8 ((G.2.1 a 8) + (G.2.1 w 2)))) ha) rfl 8 (by decide) (hts _ k_186) (fun _ h9 => h9) (congrArg (fun z9 => some (Value.int (nI z9))) (up2_s _ _ _ _)) d_Chip_setOffset_30 ?_
    refine pq_put (D := (dC, dI)) (ci := 6) (v := .int (nI ((G.2.1 a 8) + (G.2.1 w 2)))) (ty := .int) (C := R_Chip) (T := F_Chip) (N := 9) hx hb hts i_Chip t_Chip t_Chip_ok n_Chip hown hK hP hD hS (gL_m hL ha (by decide)) (gE_6 (G := (gN (gN G w 4 (G.2.1 a 8)) a 8 ((G.2.1 a 8) + (G.2.1 w 2)))) ha) rfl 7 (by decide) (hts _ k_184) (fun _ h9 => h9) rfl (by decide +kernel) rfl rfl (Nat.le_of_ble_eq_true rfl) (uE_6_7 (G := (gN (gN G w 4 (G.2.1 a 8)) a 8 ((G.2.1 a 8) + (G.2.1 w 2)))) (v := (G.2.1 a 8) + (G.2.1 w 2)) ha) d_Chip_setOffset_33 (fun H locs hP hD hS => ?_)
    have hP : va_P (dC, dI) cl ([] ++ va_pl L (gE cO (gN (gN (gN G w 4 (G.2.1 a 8)) a 8 ((G.2.1 a 8) + (G.2.1 w 2))) a 7 ((G.2.1 a 8) + (G.2.1 w 2))))) H := hP
    have hD : va_D A ([] ++ va_pl L (gE cO (gN (gN (gN G w 4 (G.2.1 a 8)) a 8 ((G.2.1 a 8) + (G.2.1 w 2))) a 7 ((G.2.1 a 8) + (G.2.1 w 2))))) := hD
    exact wr_v hx hb hr hlocks (gN (gN (gN G w 4 (G.2.1 a 8)) a 8 ((G.2.1 a 8) + (G.2.1 w 2))) a 7 ((G.2.1 a 8) + (G.2.1 w 2))) (by unfold sof; rw [if_pos c_1]) hK hP hD hS d_Chip_setOffset_36
