theorem LSx_of {t0 : Nat} {G G' : PG} {l : Nat} {xs : List Nat} (h : LSx t0 G l xs) (hb : ∀ b, (b = l ∨ (8 ≤ G.1 b ∧ G.2.1 b 9 = l)) → gs G G' b) (hk : ∀ x ∈ xs, G'.1 x = G.1 x) : LSx t0 G' l xs := by
  have hl := hb l (Or.inl rfl)
  rcases h with ⟨h1, h2, h3, h4⟩ | ⟨d, n, h1, h2, h3, h4, h5, h6, h7, h8, h9⟩
  · exact Or.inl ⟨hl.1.trans h1, by rw [hl.2.1]; exact h2, by rw [hl.2.2.2.2.2]; exact h3, h4⟩
  · have hd := hb d (Or.inr ⟨by omega, h7⟩)
    exact Or.inr ⟨d, n, hl.1.trans h1, by rw [hl.2.1]; exact h2, by rw [hl.2.2.2.2.2]; exact h3, hd.1.trans h4, h5, h6, by rw [hd.2.1]; exact h7, fun i hi => by rw [hd.2.2.2.2.2]; exact h8 i hi, fun x hx => by rw [hk x hx]; exact h9 x hx⟩
theorem LSx_N {t0 : Nat} {G : PG} {l a k v : Nat} {xs : List Nat} (h : LSx t0 G l xs) (ha : G.1 a < 7) : LSx t0 (gN G a k v) l xs := LSx_of h (fun b hb => gs_N (fun e => by rcases hb with q | q; (have := h.k.1; rw [← q, e] at this; omega); (have := q.1; rw [e] at this; omega))) (fun _ _ => rfl)
theorem LF.kd2 {G G' : PG} {a y : Nat} (h : LF G G' a) (ha : G.1 a = 7) (hy : 0 < G.1 y ∧ G.1 y < 7) : gs G G' y := h y (by omega) (fun e => by rw [e, ha] at hy; omega) (fun e => by omega)
/-- all but the list at l, its arrays and the object at a is as before -/
def LFa (G G' : PG) (l a : Nat) : Prop := ∀ b, G.1 b ≠ 0 → b ≠ l → b ≠ a → ¬ (8 ≤ G.1 b ∧ G.2.1 b 9 = l) → gs G G' b
theorem d_Chip_addPin_0 : decode b_Chip_addPin 0 = .ok (.aload_n 0, 1) := by decide +kernel
theorem d_Chip_addPin_1 : decode b_Chip_addPin 1 = .ok (.getfield 10, 3) := by decide +kernel
theorem d_Chip_addPin_4 : decode b_Chip_addPin 4 = .ok (.aload_n 1, 1) := by decide +kernel
theorem d_Chip_addPin_5 : decode b_Chip_addPin 5 = .ok (.invokevirtual 80, 3) := by decide +kernel
theorem d_Chip_addPin_8 : decode b_Chip_addPin 8 = .ok (.pop, 1) := by decide +kernel
theorem d_Chip_addPin_9 : decode b_Chip_addPin 9 = .ok (.aload_n 1, 1) := by decide +kernel
theorem d_Chip_addPin_10 : decode b_Chip_addPin 10 = .ok (.getfield 84, 3) := by decide +kernel
theorem d_Chip_addPin_13 : decode b_Chip_addPin 13 = .ok (.ifCond .ne 13, 3) := by decide +kernel
theorem d_Chip_addPin_16 : decode b_Chip_addPin 16 = .ok (.aload_n 0, 1) := by decide +kernel
theorem d_Chip_addPin_17 : decode b_Chip_addPin 17 = .ok (.dup, 1) := by decide +kernel
theorem d_Chip_addPin_18 : decode b_Chip_addPin 18 = .ok (.getfield 22, 3) := by decide +kernel
theorem d_Chip_addPin_21 : decode b_Chip_addPin 21 = .ok (.iconst 1, 1) := by decide +kernel
theorem d_Chip_addPin_22 : decode b_Chip_addPin 22 = .ok (.iadd, 1) := by decide +kernel
theorem d_Chip_addPin_23 : decode b_Chip_addPin 23 = .ok (.putfield 22, 3) := by decide +kernel
theorem d_Chip_addPin_26 : decode b_Chip_addPin 26 = .ok (.return_, 1) := by decide +kernel
set_option maxHeartbeats 4000000 in
set_option maxRecDepth 100000 in
/-- addPin(wire) -/
theorem p_Chip_addPin (l : Launch) (dC : Nat → ClassId) (dI : Nat → Nat → Nat) (cB cI cL cZ cC cO : ClassId) {L : List Nat} {G : PG} (a y lp : Nat) (xs : List Nat) (t0 sz : Nat) (hL : gL L G) (ha : G.1 a = 6) (hp : G.2.2.2.2.2 a 3 = some lp) (h : LSx t0 G lp xs) (hy : G.1 y = 2) (hk : G.2.1 y 1 < 3) (hcap : xs.length ≤ 400) : Met l y_Chip_addPin w_Chip_addPin ({ frames := 7, cells := 1, slots := 600, locals := 420 }) (va_Pc [.ref a, .ref y] (wB2 (dC, dI) cl [(cB, .byte), (cI, .int), (cL, .long), (cZ, .boolean), (cC, .char), (cO, .object "java/lang/Object")] sz t0 ([] ++ va_pl L (gE cO G)))) (va_Qv (fun (u : List Nat × PG) => LSx t0 u.2 lp (xs ++ [y]) ∧ gL u.1 u.2 ∧ LFa G u.2 lp a ∧ gs (if G.2.1 y 1 = 0 then gN G a 6 (G.2.1 a 6 + 1) else G) u.2 a) (fun u t => wA (dC, dI) cl [(cB, .byte), (cI, .int), (cL, .long), (cZ, .boolean), (cC, .char), (cO, .object "java/lang/Object")] (va_A ([] ++ va_pl L (gE cO G)) sz) ([] ++ va_pl u.1 (gE cO u.2)) t) (va_A ([] ++ va_pl L (gE cO G)) sz)) 1 600 (va_A ([] ++ va_pl L (gE cO G)) sz) := by
  refine Met.ofW (cc := b_Chip_addPin) (maxL := 2) (ret := none) (by decide) rfl ?_
  intro p e s m args below meth c s₁ B hml hv
  obtain ⟨rfl, ⟨hsz, hP, hK, hD0, hF⟩, hE⟩ := hv
  have hx := B.exec
  have hb := B.bytes
  have hr := B.returns
  have hts := atoms_spec (ws := w_Chip_addPin) B.pre
  have hts : ∀ w ∈ tb, w.before _ s = true := fun w h => hts w (List.mem_cons_of_mem _ h)
  have hown : s.vm.findClass R_Chip = some m.cls := findClass_of_methodNamed B.named
  have hlocks := B.notSynchronized
  subst hsz
  have hD := hD0.self (sz := s.heap.size)
  generalize hAe : va_A ([] ++ va_pl L (gE cO G)) s.heap.size = A at hD hF hE ⊢
  have hA : ∀ q : Nat, s.heap.size ≤ q → A q := fun q h => by rw [← hAe]; exact Or.inr h
  have hS : va_S A s.heap s.heap [] := va_S.rf
  have hP : va_P (dC, dI) cl ([] ++ va_pl L (gE cO G)) s.heap := hP
  have hl := lv_entry ([.ref a, .ref y]) (n := 2) (Nat.le_of_ble_eq_true rfl)
  rw [lg_entry_eq]
  generalize (lg_sl ([.ref a, .ref y]) ++ List.replicate (2 - (lg_sl ([.ref a, .ref y])).length) Slot.unset).toArray = ls at hl ⊢
  have hl : lv_has ls 2 [(0, .ref a), (1, .ref y)] := hl
  refine lv_aload_n hx hb d_Chip_addPin_0 rfl (lv_at hl 0 rfl) ?_
  refine pq_get (D := (dC, dI)) (ci := 6) (v := .ref lp) (C := R_Chip) (T := F_Chip) (N := 9) hx hb hts i_Chip hown hK hP (gL_m hL ha (by decide)) (gE_6 (G := G) ha) rfl 3 (by decide) (hts _ k_172) (fun _ h9 => h9) (congrArg (fun z9 => some (va_rf z9)) hp) d_Chip_addPin_1 ?_
  refine lv_aload_n hx hb d_Chip_addPin_4 rfl (lv_at hl 1 rfl) ?_
  refine wd_i (cx := []) (wr := []) (pl := va_pl L (gE cO G)) (va_runV (As := [.ref y]) (rest := []) ⟨hx, hb, hml, hown, hts⟩ (p_List_add l dC dI cB cI cL cZ cC cO lp y xs t0 _ hL h (by rw [hy]; decide) hcap) (cwV 1 hts (good_V k_254 k_255 k_256 k_7 k_257) rfl rfl rfl (by decide +kernel) ⟨Nat.le_of_ble_eq_true rfl, Nat.le_of_ble_eq_true rfl⟩) (wd_preV (ci := 4) (r := (R_List, F_List, 3)) hK hP hD hS hA hF hE [] (by decide) rfl rfl (pq_at (gL_m hL h.k.1 (by decide)) (gE_7 (G := G) h.k.1))) rfl rfl hl.1 rfl (lv_room (Nat.le_of_ble_eq_true rfl)) d_Chip_addPin_5 ⟨Nat.le_of_ble_eq_true rfl, Nat.le_of_ble_eq_true rfl⟩) hP hD hS hA [] [] rfl rfl (by decide) (by decide) (fun r_2 u H locs w_1 hP hD hS => ?_)
  have hP : va_P (dC, dI) cl ([] ++ va_pl u.1 (gE cO u.2)) H := hP
  have hD : va_D A ([] ++ va_pl u.1 (gE cO u.2)) := hD
  obtain ⟨r_2e, hu⟩ := w_1
  subst r_2e
  have hgy : gs G u.2 y := hu.2.2.kd2 h.k.1 (by rw [hy]; decide)
  have hga : gs G u.2 a := hu.2.2.kd2 h.k.1 (by rw [ha]; decide)
  have ka : u.2.1 a = 6 := hga.1.trans ha
  have ky : u.2.1 y = 2 := hgy.1.trans hy
  have hL := hu.2.1
  refine lv_pop hx hb d_Chip_addPin_8 rfl ?_
  refine lv_aload_n hx hb d_Chip_addPin_9 rfl (lv_at hl 1 rfl) ?_
  refine pq_get (D := (dC, dI)) (ci := 8) (v := .int (nI (G.2.1 y 1))) (C := R_Wire) (T := F_Wire) (N := 7) hx hb hts i_Wire hown hK hP (gL_m hL ky (by decide)) (gE_2 (G := u.2) ky) rfl 1 (by decide) (hts _ k_218) (fun _ h9 => h9) (congrArg (fun z9 => some (Value.int (nI z9))) (congrFun hgy.2.1 1)) d_Chip_addPin_10 ?_
  refine nv_if_ne (tgt := 26) hx hb (by omega) d_Chip_addPin_13 (by decide) (fun c_3 => ?_) (fun c_3 => ?_)
  · exact wr_v hx hb hr hlocks u ⟨hu.1, hu.2.1, fun b h1 h2 _ h4 => hu.2.2 b h1 h2 h4, by rw [if_neg c_3]; exact hga⟩ hK hP hD hS d_Chip_addPin_26
  · refine lv_aload_n hx hb d_Chip_addPin_16 rfl (lv_at hl 0 rfl) ?_
    refine lv_dup hx hb d_Chip_addPin_17 rfl ?_
    refine pq_get (D := (dC, dI)) (ci := 6) (v := .int (nI (G.2.1 a 6))) (C := R_Chip) (T := F_Chip) (N := 9) hx hb hts i_Chip hown hK hP (gL_m hL ka (by decide)) (gE_6 (G := u.2) ka) rfl 6 (by decide) (hts _ k_182) (fun _ h9 => h9) (congrArg (fun z9 => some (Value.int (nI z9))) (congrFun hga.2.1 6)) d_Chip_addPin_18 ?_
    refine lv_iconst (v := nI 1) hx hb d_Chip_addPin_21 (by decide) ?_
    refine nv_iadd hx hb d_Chip_addPin_22 ?_
    refine pq_put (D := (dC, dI)) (ci := 6) (v := .int (nI ((G.2.1 a 6) + 1))) (ty := .int) (C := R_Chip) (T := F_Chip) (N := 9) hx hb hts i_Chip t_Chip t_Chip_ok n_Chip hown hK hP hD hS (gL_m hL ka (by decide)) (gE_6 (G := u.2) ka) rfl 6 (by decide) (hts _ k_182) (fun _ h9 => h9) rfl (by decide +kernel) rfl rfl (Nat.le_of_ble_eq_true rfl) (uE_6_6 (G := u.2) (v := (G.2.1 a 6) + 1) ka) d_Chip_addPin_23 (fun H locs hP hD hS => ?_)
    have hP : va_P (dC, dI) cl ([] ++ va_pl u.1 (gE cO (gN u.2 a 6 ((G.2.1 a 6) + 1)))) H := hP
    have hD : va_D A ([] ++ va_pl u.1 (gE cO (gN u.2 a 6 ((G.2.1 a 6) + 1)))) := hD
    refine wr_v hx hb hr hlocks (u.1, gN u.2 a 6 ((G.2.1 a 6) + 1)) ⟨LSx_N hu.1 (by rw [ka]; decide), hu.2.1, fun b h1 h2 h3 h4 => (hu.2.2 b h1 h2 h4).tr (gs_N h3), ?_⟩ hK hP hD hS d_Chip_addPin_26
    rw [if_pos c_3]; refine ⟨hga.1, ?_, hga.2.2.1, hga.2.2.2.1, hga.2.2.2.2.1, hga.2.2.2.2.2⟩; show up2 u.2.2.1 a 6 _ a = up2 G.2.1 a 6 _ a; rw [up2_x, up2_x, hga.2.1]
def fsm (G : PG) (wn x : Nat) : Bool := match G.2.2.2.2.2 x 0 with
  | some nm => decide (G.2.2.2.2.1 nm 0 = G.2.2.2.2.1 wn 0) && decide (G.2.2.2.2.1 nm 1 = G.2.2.2.2.1 wn 1)
  | none => false
theorem fnd_u {xs : List Nat} {i x : Nat} (h : xs[i]? = some x) (p : Nat → Bool) : (xs.drop i).find? p = if p x = true then some x else (xs.drop (i + 1)).find? p := by
  obtain ⟨h1, h2⟩ := List.getElem?_eq_some_iff.mp h
  rw [List.drop_eq_getElem_cons h1, h2, List.find?_cons]
  cases hp : p x <;> simp
theorem d_Chip_find_0 : decode b_Chip_find 0 = .ok (.iconst 0, 1) := by decide +kernel
theorem d_Chip_find_1 : decode b_Chip_find 1 = .ok (.istore_n 2, 1) := by decide +kernel
theorem d_Chip_find_2 : decode b_Chip_find 2 = .ok (.iload_n 2, 1) := by decide +kernel
theorem d_Chip_find_3 : decode b_Chip_find 3 = .ok (.aload_n 0, 1) := by decide +kernel
theorem d_Chip_find_4 : decode b_Chip_find 4 = .ok (.invokevirtual 87, 3) := by decide +kernel
theorem d_Chip_find_7 : decode b_Chip_find 7 = .ok (.if_icmp .ge 36, 3) := by decide +kernel
theorem d_Chip_find_10 : decode b_Chip_find 10 = .ok (.aload_n 0, 1) := by decide +kernel
theorem d_Chip_find_11 : decode b_Chip_find 11 = .ok (.iload_n 2, 1) := by decide +kernel
theorem d_Chip_find_12 : decode b_Chip_find 12 = .ok (.invokevirtual 91, 3) := by decide +kernel
theorem d_Chip_find_15 : decode b_Chip_find 15 = .ok (.checkcast 54, 3) := by decide +kernel
theorem d_Chip_find_18 : decode b_Chip_find 18 = .ok (.getfield 95, 3) := by decide +kernel
theorem d_Chip_find_21 : decode b_Chip_find 21 = .ok (.aload_n 1, 1) := by decide +kernel
theorem d_Chip_find_22 : decode b_Chip_find 22 = .ok (.invokevirtual 96, 3) := by decide +kernel
theorem d_Chip_find_25 : decode b_Chip_find 25 = .ok (.ifCond .eq 12, 3) := by decide +kernel
theorem d_Chip_find_28 : decode b_Chip_find 28 = .ok (.aload_n 0, 1) := by decide +kernel
theorem d_Chip_find_29 : decode b_Chip_find 29 = .ok (.iload_n 2, 1) := by decide +kernel
theorem d_Chip_find_30 : decode b_Chip_find 30 = .ok (.invokevirtual 91, 3) := by decide +kernel
theorem d_Chip_find_33 : decode b_Chip_find 33 = .ok (.checkcast 54, 3) := by decide +kernel
theorem d_Chip_find_36 : decode b_Chip_find 36 = .ok (.areturn, 1) := by decide +kernel
theorem d_Chip_find_37 : decode b_Chip_find 37 = .ok (.iinc 2 1, 3) := by decide +kernel
theorem d_Chip_find_40 : decode b_Chip_find 40 = .ok (.goto (-38), 3) := by decide +kernel
theorem d_Chip_find_43 : decode b_Chip_find 43 = .ok (.aconst_null, 1) := by decide +kernel
theorem d_Chip_find_44 : decode b_Chip_find 44 = .ok (.areturn, 1) := by decide +kernel
set_option maxHeartbeats 4000000 in
set_option maxRecDepth 100000 in
theorem lp_Chip_find {p : Program} {l : Launch} {e : Env} {s : State} {m : MethodId} {args : Array Value} {below : List Frame} {meth : Method} {c : Code} {Q : State → Prop} {A : Nat → Prop} {dC : Nat → ClassId} {dI : Nat → Nat → Nat} {cB cI cL cZ cC cO : ClassId} {t0 : Nat} {L : List Nat} {G : PG} {a wn : Nat} {xs : List Nat} {F : Option Nat} (hL : gL L G) (h : LSx t0 G a xs) (hlen : xs.length < 1000) (hw : ∀ x ∈ xs, G.1 x = 2 ∧ ∃ nm, G.2.2.2.2.2 x 0 = some nm ∧ G.1 nm = 1) (hwn : G.1 wn = 1) (hx : p.tables.exec = Jvm.exec) (hb : c.code = b_Chip_find) (hml : c.maxLocals = 3) (hown : s.vm.findClass R_Chip = some m.cls) (hts : ∀ w ∈ tb, w.before args s = true) (hA : ∀ q, s.heap.size ≤ q → A q) (hF : stF A s) (hE : stE A t0 s) (hK : va_K (dC, dI) cl [(cB, .byte), (cI, .int), (cL, .long), (cZ, .boolean), (cC, .char), (cO, .object "java/lang/Object")] s)
    (kx0 : ∀  (H : Heap) (locs : List Loc) (ls : Array Slot), none = F → va_P (dC, dI) cl ([] ++ va_pl L (gE cO G)) H → va_D A ([] ++ va_pl L (gE cO G)) → va_S A s.heap H locs → lv_has ls 3 [(0, .ref a), (1, .ref wn)] → W p l e (headSpec w_Chip_find { frames := 3, cells := 0, slots := 0, locals := 130 }).room s m args below meth c H locs 0 0 Q (F0 m 43 ls [])) (kx1 : ∀ (x : Nat) (H : Heap) (locs : List Loc) (ls : Array Slot), some x = F → va_P (dC, dI) cl ([] ++ va_pl L (gE cO G)) H → va_D A ([] ++ va_pl L (gE cO G)) → va_S A s.heap H locs → lv_has ls 3 [(0, .ref a), (1, .ref wn)] → W p l e (headSpec w_Chip_find { frames := 3, cells := 0, slots := 0, locals := 130 }).room s m args below meth c H locs 0 0 Q (F0 m 36 ls [.ref x])) :
    ∀ (k : Nat) (i : Nat) (H : Heap) (locs : List Loc) (ls : Array Slot), xs.length < i + k → i ≤ xs.length → (xs.drop i).find? (fsm G wn) = F → va_P (dC, dI) cl ([] ++ va_pl L (gE cO G)) H → va_D A ([] ++ va_pl L (gE cO G)) → va_S A s.heap H locs → lv_has ls 3 [(2, .int (nI i)), (0, .ref a), (1, .ref wn)] → W p l e (headSpec w_Chip_find { frames := 3, cells := 0, slots := 0, locals := 130 }).room s m args below meth c H locs 0 0 Q (F0 m 2 ls []) := by
  intro k
  induction k with
  | zero =>
    intro i H locs ls hk hi hr hP hD hS hl
    exfalso; omega
  | succ k ih =>
    intro i H locs ls hk hi hr hP hD hS hl
    refine lv_iload_n hx hb d_Chip_find_2 rfl (lv_at hl 0 rfl) ?_
    refine lv_aload_n hx hb d_Chip_find_3 rfl (lv_at hl 1 rfl) ?_
    refine wd_i (cx := []) (wr := []) (pl := va_pl L (gE cO G)) (va_runV (As := []) (rest := [.int (nI i)]) ⟨hx, hb, hml, hown, hts⟩ (p_List_size l dC dI cB cI cL cZ cC cO (G := G) a t0 _ hL h.k.1) (cwV 0 hts (good_V k_324 k_325 k_326 k_7 k_327) rfl rfl rfl (by decide +kernel) ⟨Nat.le_of_ble_eq_true rfl, Nat.le_of_ble_eq_true rfl⟩) (wd_preV (ci := 4) (r := (R_List, F_List, 3)) hK hP hD hS hA hF hE [] (by decide) rfl rfl (pq_at (gL_m hL h.k.1 (by decide)) (gE_7 (G := G) h.k.1))) rfl rfl hl.1 rfl (lv_room (Nat.le_of_ble_eq_true rfl)) d_Chip_find_4 ⟨Nat.le_of_ble_eq_true rfl, Nat.le_of_ble_eq_true rfl⟩) hP hD hS hA [] [] rfl rfl (by decide) (by decide) (fun r_2 _ H locs w_1 hP hD hS => ?_)
    have hP : va_P (dC, dI) cl ([] ++ va_pl L (gE cO G)) H := hP
    have hD : va_D A ([] ++ va_pl L (gE cO G)) := hD
    rw [h.k.2] at w_1
    subst w_1
    refine nv_icmp_ge (tgt := 43) hx hb (by omega) (by omega) d_Chip_find_7 (by decide) (fun c_3 => ?_) (fun c_3 => ?_)
    · have hq : none = F := by rw [← hr, List.drop_eq_nil_of_le (by omega)]; rfl
      exact kx0 H locs ls hq hP hD hS (lv_sub hl [1, 2] rfl)
    · refine lv_aload_n hx hb d_Chip_find_10 rfl (lv_at hl 1 rfl) ?_
      refine lv_iload_n hx hb d_Chip_find_11 rfl (lv_at hl 0 rfl) ?_
      obtain ⟨x, hxi⟩ : ∃ z, xs[i]? = some z := ⟨_, List.getElem?_eq_getElem (by omega)⟩
      refine wd_q (cx := []) (wr := []) (pl := va_pl L (gE cO G)) (va_runV (As := [.int (nI i)]) (rest := []) ⟨hx, hb, hml, hown, hts⟩ (p_List_get l dC dI cB cI cL cZ cC cO (G := G) a (i) xs t0 _ hL h (by omega)) (cwV 1 hts (good_V k_328 k_329 k_330 k_7 k_331) rfl rfl rfl (by decide +kernel) ⟨Nat.le_of_ble_eq_true rfl, Nat.le_of_ble_eq_true rfl⟩) (wd_preV (ci := 4) (r := (R_List, F_List, 3)) hK hP hD hS hA hF hE [] (by decide) rfl rfl (pq_at (gL_m hL h.k.1 (by decide)) (gE_7 (G := G) h.k.1))) rfl rfl hl.1 rfl (lv_room (Nat.le_of_ble_eq_true rfl)) d_Chip_find_12 ⟨Nat.le_of_ble_eq_true rfl, Nat.le_of_ble_eq_true rfl⟩) hP hD hS hA [] [] rfl rfl (by decide) (by decide) (fun r_5 _ H locs w_4 hP hD hS => ?_)
      have hP : va_P (dC, dI) cl ([] ++ va_pl L (gE cO G)) H := hP
      have hD : va_D A ([] ++ va_pl L (gE cO G)) := hD
      rw [hxi] at w_4
      subst w_4
      obtain ⟨kx9, nm, hnm, knm⟩ := hw x (List.mem_of_getElem? hxi)
      refine pq_cast (ci := 8) (C := R_Wire) (T := F_Wire) (N := 7) hx hb hown (hts _ k_207) (hF.2.2.2.2 _ (List.mem_of_getElem? (i := 3) rfl)) hK hP (gL_m hL kx9 (by decide)) (gE_2 (G := G) kx9) rfl d_Chip_find_15 ?_
      refine pq_get (D := (dC, dI)) (ci := 8) (v := .ref nm) (C := R_Wire) (T := F_Wire) (N := 7) hx hb hts i_Wire hown hK hP (gL_m hL kx9 (by decide)) (gE_2 (G := G) kx9) rfl 0 (by decide) (hts _ k_215) (fun _ h9 => h9) (congrArg (fun z9 => some (va_rf z9)) hnm) d_Chip_find_18 ?_
      refine lv_aload_n hx hb d_Chip_find_21 rfl (lv_at hl 2 rfl) ?_
      refine wd_i (cx := []) (wr := []) (pl := va_pl L (gE cO G)) (va_runV (As := [.ref wn]) (rest := []) ⟨hx, hb, hml, hown, hts⟩ (p_Name_same l dC dI cB cI cL cZ cC cO nm wn t0 _ hL knm hwn) (cwV 1 hts (good_V k_679 k_680 k_681 k_10 k_682) rfl rfl rfl (by decide +kernel) ⟨Nat.le_of_ble_eq_true rfl, Nat.le_of_ble_eq_true rfl⟩) (wd_preV (ci := 7) (r := (R_Name, F_Name, 3)) hK hP hD hS hA hF hE [] (by decide) rfl rfl (pq_at (gL_m hL knm (by decide)) (gE_1 (G := G) knm))) rfl rfl hl.1 rfl (lv_room (Nat.le_of_ble_eq_true rfl)) d_Chip_find_22 ⟨Nat.le_of_ble_eq_true rfl, Nat.le_of_ble_eq_true rfl⟩) hP hD hS hA [] [] rfl rfl (by decide) (by decide) (fun r_7 _ H locs w_6 hP hD hS => ?_)
      have hP : va_P (dC, dI) cl ([] ++ va_pl L (gE cO G)) H := hP
      have hD : va_D A ([] ++ va_pl L (gE cO G)) := hD
      subst w_6
      have hfs : fsm G wn x = (decide (G.2.2.2.2.1 nm 0 = G.2.2.2.2.1 wn 0) && decide (G.2.2.2.2.1 nm 1 = G.2.2.2.2.1 wn 1)) := by unfold fsm; rw [hnm]
      refine nv_bif_eq (tgt := 37) hx hb d_Chip_find_25 (by decide) (fun c_8 => ?_) (fun c_8 => ?_)
      · refine lv_iinc (v := nI (i + 1)) (lv' := [(2, .int (nI (i + 1))), (0, .ref a), (1, .ref wn)]) hx hb d_Chip_find_37 hl (k := 0) rfl (nI_1 _) (by decide) rfl (fun ls hl => ?_)
        refine lv_goto (tgt := 2) hx hb d_Chip_find_40 (by decide) ?_
        exact ih (i + 1) H locs ls (by omega) (by omega) (by rw [← hr, fnd_u hxi, if_neg (by rw [hfs, c_8]; decide)]) hP hD hS (lv_sub hl [0, 1, 2] rfl)
      · refine lv_aload_n hx hb d_Chip_find_28 rfl (lv_at hl 1 rfl) ?_
        refine lv_iload_n hx hb d_Chip_find_29 rfl (lv_at hl 0 rfl) ?_
        refine wd_q (cx := []) (wr := []) (pl := va_pl L (gE cO G)) (va_runV (As := [.int (nI i)]) (rest := []) ⟨hx, hb, hml, hown, hts⟩ (p_List_get l dC dI cB cI cL cZ cC cO (G := G) a (i) xs t0 _ hL h (by omega)) (cwV 1 hts (good_V k_328 k_329 k_330 k_7 k_331) rfl rfl rfl (by decide +kernel) ⟨Nat.le_of_ble_eq_true rfl, Nat.le_of_ble_eq_true rfl⟩) (wd_preV (ci := 4) (r := (R_List, F_List, 3)) hK hP hD hS hA hF hE [] (by decide) rfl rfl (pq_at (gL_m hL h.k.1 (by decide)) (gE_7 (G := G) h.k.1))) rfl rfl hl.1 rfl (lv_room (Nat.le_of_ble_eq_true rfl)) d_Chip_find_30 ⟨Nat.le_of_ble_eq_true rfl, Nat.le_of_ble_eq_true rfl⟩) hP hD hS hA [] [] rfl rfl (by decide) (by decide) (fun r_10 _ H locs w_9 hP hD hS => ?_)
        have hP : va_P (dC, dI) cl ([] ++ va_pl L (gE cO G)) H := hP
        have hD : va_D A ([] ++ va_pl L (gE cO G)) := hD
        rw [hxi] at w_9
        subst w_9
        refine pq_cast (ci := 8) (C := R_Wire) (T := F_Wire) (N := 7) hx hb hown (hts _ k_207) (hF.2.2.2.2 _ (List.mem_of_getElem? (i := 3) rfl)) hK hP (gL_m hL kx9 (by decide)) (gE_2 (G := G) kx9) rfl d_Chip_find_33 ?_
        have hq : some x = F := by rw [← hr, fnd_u hxi, if_pos (hfs.trans c_8)]
        exact kx1 x H locs ls hq hP hD hS (lv_sub hl [1, 2] rfl)
set_option maxHeartbeats 4000000 in
set_option maxRecDepth 100000 in
/-- find(wires, name) -/
theorem p_Chip_find (l : Launch) (dC : Nat → ClassId) (dI : Nat → Nat → Nat) (cB cI cL cZ cC cO : ClassId) {L : List Nat} {G : PG} (a wn : Nat) (xs : List Nat) (t0 sz : Nat) (hL : gL L G) (h : LSx t0 G a xs) (hlen : xs.length < 1000) (hw : ∀ x ∈ xs, G.1 x = 2 ∧ ∃ nm, G.2.2.2.2.2 x 0 = some nm ∧ G.1 nm = 1) (hwn : G.1 wn = 1) : Met l y_Chip_find w_Chip_find ({ frames := 3, cells := 0, slots := 0, locals := 130 }) (va_Pc [.ref a, .ref wn] (wB2 (dC, dI) cl [(cB, .byte), (cI, .int), (cL, .long), (cZ, .boolean), (cC, .char), (cO, .object "java/lang/Object")] sz t0 ([] ++ va_pl L (gE cO G)))) (va_Qq (fun (r : Option Nat) (u : Unit) => r = (xs.find? (fsm G wn))) (fun _ t => wA (dC, dI) cl [(cB, .byte), (cI, .int), (cL, .long), (cZ, .boolean), (cC, .char), (cO, .object "java/lang/Object")] (va_A ([] ++ va_pl L (gE cO G)) sz) ([] ++ va_pl L (gE cO G)) t) (va_A ([] ++ va_pl L (gE cO G)) sz)) 0 0 (va_A ([] ++ va_pl L (gE cO G)) sz) := by
  refine Met.ofW (cc := b_Chip_find) (maxL := 3) (ret := (some (ClassFile.FieldType.object "ChipDesk$Wire"))) (by decide) rfl ?_
  intro p e s m args below meth c s₁ B hml hv
  obtain ⟨rfl, ⟨hsz, hP, hK, hD0, hF⟩, hE⟩ := hv
  have hx := B.exec
  have hb := B.bytes
  have hr := B.returns
  have hts := atoms_spec (ws := w_Chip_find) B.pre
  have hts : ∀ w ∈ tb, w.before _ s = true := fun w h => hts w (List.mem_cons_of_mem _ h)
  have hown : s.vm.findClass R_Chip = some m.cls := findClass_of_methodNamed B.named
  have hlocks := B.notSynchronized
  subst hsz
  have hD := hD0.self (sz := s.heap.size)
  generalize hAe : va_A ([] ++ va_pl L (gE cO G)) s.heap.size = A at hD hF hE ⊢
  have hA : ∀ q : Nat, s.heap.size ≤ q → A q := fun q h => by rw [← hAe]; exact Or.inr h
  have hS : va_S A s.heap s.heap [] := va_S.rf
  have hP : va_P (dC, dI) cl ([] ++ va_pl L (gE cO G)) s.heap := hP
  have hl := lv_entry ([.ref a, .ref wn]) (n := 3) (Nat.le_of_ble_eq_true rfl)
  rw [lg_entry_eq]
  generalize (lg_sl ([.ref a, .ref wn]) ++ List.replicate (3 - (lg_sl ([.ref a, .ref wn])).length) Slot.unset).toArray = ls at hl ⊢
  have hl : lv_has ls 3 [(0, .ref a), (1, .ref wn)] := hl
  refine lv_iconst (v := nI 0) hx hb d_Chip_find_0 (by decide) ?_
  refine lv_istore_n (lv' := [(2, .int (nI 0)), (0, .ref a), (1, .ref wn)]) hx hb d_Chip_find_1 rfl hl (by decide) rfl (fun ls hl => ?_)
  refine lp_Chip_find (F := (xs.find? (fsm G wn))) hL h hlen hw hwn hx hb hml hown hts hA hF hE hK (fun H locs ls hq hP hD hS hl => ?_) (fun x H locs ls hq hP hD hS hl => ?_) (xs.length + 1) 0 _ _ ls (by omega) (by omega) rfl hP hD hS (lv_sub hl [0, 1, 2] rfl)
  · refine lv_null hx hb d_Chip_find_43 ?_
    exact wr_q (r := none) hx hb hr ⟨_, rfl⟩ hlocks () hq hK hP hD hS d_Chip_find_44
  · exact wr_q (r := some x) hx hb hr ⟨_, rfl⟩ hlocks () hq hK hP hD hS d_Chip_find_36
def frp (xs : List Nat) : Nat → Nat → PG → PG
  | 0, _, G => G
  | k + 1, i, G => frp xs k (i + 1) (gN G (xs[i]?.getD 0) 5 0)
theorem frp_u (xs : List Nat) (n i : Nat) (G : PG) : frp xs (n - i) i G = if i < n then frp xs (n - (i + 1)) (i + 1) (gN G (xs[i]?.getD 0) 5 0) else G := by
  by_cases h : i < n
  · rw [if_pos h, show n - i = (n - (i + 1)) + 1 by omega]; rfl
  · rw [if_neg h, show n - i = 0 by omega]; rfl
theorem d_Chip_freeInPins_0 : decode b_Chip_freeInPins 0 = .ok (.iconst 0, 1) := by decide +kernel
theorem d_Chip_freeInPins_1 : decode b_Chip_freeInPins 1 = .ok (.istore_n 1, 1) := by decide +kernel
theorem d_Chip_freeInPins_2 : decode b_Chip_freeInPins 2 = .ok (.iload_n 1, 1) := by decide +kernel
theorem d_Chip_freeInPins_3 : decode b_Chip_freeInPins 3 = .ok (.aload_n 0, 1) := by decide +kernel
theorem d_Chip_freeInPins_4 : decode b_Chip_freeInPins 4 = .ok (.getfield 22, 3) := by decide +kernel
theorem d_Chip_freeInPins_7 : decode b_Chip_freeInPins 7 = .ok (.if_icmp .ge 35, 3) := by decide +kernel
theorem d_Chip_freeInPins_10 : decode b_Chip_freeInPins 10 = .ok (.iload_n 1, 1) := by decide +kernel
theorem d_Chip_freeInPins_11 : decode b_Chip_freeInPins 11 = .ok (.aload_n 0, 1) := by decide +kernel
theorem d_Chip_freeInPins_12 : decode b_Chip_freeInPins 12 = .ok (.getfield 10, 3) := by decide +kernel
theorem d_Chip_freeInPins_15 : decode b_Chip_freeInPins 15 = .ok (.invokevirtual 87, 3) := by decide +kernel
theorem d_Chip_freeInPins_18 : decode b_Chip_freeInPins 18 = .ok (.if_icmp .ge 24, 3) := by decide +kernel
theorem d_Chip_freeInPins_21 : decode b_Chip_freeInPins 21 = .ok (.aload_n 0, 1) := by decide +kernel
theorem d_Chip_freeInPins_22 : decode b_Chip_freeInPins 22 = .ok (.getfield 10, 3) := by decide +kernel
theorem d_Chip_freeInPins_25 : decode b_Chip_freeInPins 25 = .ok (.iload_n 1, 1) := by decide +kernel
theorem d_Chip_freeInPins_26 : decode b_Chip_freeInPins 26 = .ok (.invokevirtual 91, 3) := by decide +kernel
theorem d_Chip_freeInPins_29 : decode b_Chip_freeInPins 29 = .ok (.checkcast 54, 3) := by decide +kernel
theorem d_Chip_freeInPins_32 : decode b_Chip_freeInPins 32 = .ok (.iconst 0, 1) := by decide +kernel
theorem d_Chip_freeInPins_33 : decode b_Chip_freeInPins 33 = .ok (.putfield 100, 3) := by decide +kernel
theorem d_Chip_freeInPins_36 : decode b_Chip_freeInPins 36 = .ok (.iinc 1 1, 3) := by decide +kernel
theorem d_Chip_freeInPins_39 : decode b_Chip_freeInPins 39 = .ok (.goto (-37), 3) := by decide +kernel
theorem d_Chip_freeInPins_42 : decode b_Chip_freeInPins 42 = .ok (.return_, 1) := by decide +kernel
set_option maxHeartbeats 4000000 in
set_option maxRecDepth 100000 in
theorem lp_Chip_freeInPins {p : Program} {l : Launch} {e : Env} {s : State} {m : MethodId} {args : Array Value} {below : List Frame} {meth : Method} {c : Code} {Q : State → Prop} {A : Nat → Prop} {dC : Nat → ClassId} {dI : Nat → Nat → Nat} {cB cI cL cZ cC cO : ClassId} {t0 : Nat} {L : List Nat} {a lp np : Nat} {xs : List Nat} {F : PG} (hlen : xs.length < 1000) (hnpl : np < 1000) (hx : p.tables.exec = Jvm.exec) (hb : c.code = b_Chip_freeInPins) (hml : c.maxLocals = 2) (hown : s.vm.findClass R_Chip = some m.cls) (hts : ∀ w ∈ tb, w.before args s = true) (hA : ∀ q, s.heap.size ≤ q → A q) (hF : stF A s) (hE : stE A t0 s) (hK : va_K (dC, dI) cl [(cB, .byte), (cI, .int), (cL, .long), (cZ, .boolean), (cC, .char), (cO, .object "java/lang/Object")] s)
    (kx : ∀  (H : Heap) (locs : List Loc) (ls : Array Slot), va_P (dC, dI) cl ([] ++ va_pl L (gE cO F)) H → va_D A ([] ++ va_pl L (gE cO F)) → va_S A s.heap H locs → lv_has ls 2 [(0, .ref a)] → W p l e (headSpec w_Chip_freeInPins { frames := 3, cells := 0, slots := 0, locals := 130 }).room s m args below meth c H locs 0 0 Q (F0 m 42 ls [])) :
    ∀ (k : Nat) (i : Nat) (G : PG) (H : Heap) (locs : List Loc) (ls : Array Slot), min np xs.length < i + k → i ≤ min np xs.length → gL L G → LSx t0 G lp xs → G.1 a = 6 → G.2.2.2.2.2 a 3 = some lp → G.2.1 a 6 = np → (∀ x ∈ xs, G.1 x = 2) → frp xs (min np xs.length - i) i G = F → va_P (dC, dI) cl ([] ++ va_pl L (gE cO G)) H → va_D A ([] ++ va_pl L (gE cO G)) → va_S A s.heap H locs → lv_has ls 2 [(1, .int (nI i)), (0, .ref a)] → W p l e (headSpec w_Chip_freeInPins { frames := 3, cells := 0, slots := 0, locals := 130 }).room s m args below meth c H locs 0 0 Q (F0 m 2 ls []) := by
  intro k
  induction k with
  | zero =>
    intro i G H locs ls hk hi hL h ha hp hnp hw hr hP hD hS hl
    exfalso; omega
  | succ k ih =>
    intro i G H locs ls hk hi hL h ha hp hnp hw hr hP hD hS hl
    refine lv_iload_n hx hb d_Chip_freeInPins_2 rfl (lv_at hl 0 rfl) ?_
    refine lv_aload_n hx hb d_Chip_freeInPins_3 rfl (lv_at hl 1 rfl) ?_
    refine pq_get (D := (dC, dI)) (ci := 6) (v := .int (nI np)) (C := R_Chip) (T := F_Chip) (N := 9) hx hb hts i_Chip hown hK hP (gL_m hL ha (by decide)) (gE_6 (G := G) ha) rfl 6 (by decide) (hts _ k_182) (fun _ h9 => h9) (congrArg (fun z9 => some (Value.int (nI z9))) hnp) d_Chip_freeInPins_4 ?_
    refine nv_icmp_ge (tgt := 42) hx hb (by omega) (by omega) d_Chip_freeInPins_7 (by decide) (fun c_1 => ?_) (fun c_1 => ?_)
    · have hq : G = F := by rw [← hr, frp_u, if_neg (by omega)]
      subst hq
      exact kx H locs ls hP hD hS (lv_sub hl [1] rfl)
    · refine lv_iload_n hx hb d_Chip_freeInPins_10 rfl (lv_at hl 0 rfl) ?_
      refine lv_aload_n hx hb d_Chip_freeInPins_11 rfl (lv_at hl 1 rfl) ?_
      refine pq_get (D := (dC, dI)) (ci := 6) (v := .ref lp) (C := R_Chip) (T := F_Chip) (N := 9) hx hb hts i_Chip hown hK hP (gL_m hL ha (by decide)) (gE_6 (G := G) ha) rfl 3 (by decide) (hts _ k_172) (fun _ h9 => h9) (congrArg (fun z9 => some (va_rf z9)) hp) d_Chip_freeInPins_12 ?_
      refine wd_i (cx := []) (wr := []) (pl := va_pl L (gE cO G)) (va_runV (As := []) (rest := [.int (nI i)]) ⟨hx, hb, hml, hown, hts⟩ (p_List_size l dC dI cB cI cL cZ cC cO (G := G) lp t0 _ hL h.k.1) (cwV 0 hts (good_V k_324 k_325 k_326 k_7 k_327) rfl rfl rfl (by decide +kernel) ⟨Nat.le_of_ble_eq_true rfl, Nat.le_of_ble_eq_true rfl⟩) (wd_preV (ci := 4) (r := (R_List, F_List, 3)) hK hP hD hS hA hF hE [] (by decide) rfl rfl (pq_at (gL_m hL h.k.1 (by decide)) (gE_7 (G := G) h.k.1))) rfl rfl hl.1 rfl (lv_room (Nat.le_of_ble_eq_true rfl)) d_Chip_freeInPins_15 ⟨Nat.le_of_ble_eq_true rfl, Nat.le_of_ble_eq_true rfl⟩) hP hD hS hA [] [] rfl rfl (by decide) (by decide) (fun r_3 _ H locs w_2 hP hD hS => ?_)
      have hP : va_P (dC, dI) cl ([] ++ va_pl L (gE cO G)) H := hP
      have hD : va_D A ([] ++ va_pl L (gE cO G)) := hD
      rw [h.k.2] at w_2
      subst w_2
      refine nv_icmp_ge (tgt := 42) hx hb (by omega) (by omega) d_Chip_freeInPins_18 (by decide) (fun c_4 => ?_) (fun c_4 => ?_)
      · have hq : G = F := by rw [← hr, frp_u, if_neg (by omega)]
        subst hq
        exact kx H locs ls hP hD hS (lv_sub hl [1] rfl)
      · refine lv_aload_n hx hb d_Chip_freeInPins_21 rfl (lv_at hl 1 rfl) ?_
        refine pq_get (D := (dC, dI)) (ci := 6) (v := .ref lp) (C := R_Chip) (T := F_Chip) (N := 9) hx hb hts i_Chip hown hK hP (gL_m hL ha (by decide)) (gE_6 (G := G) ha) rfl 3 (by decide) (hts _ k_172) (fun _ h9 => h9) (congrArg (fun z9 => some (va_rf z9)) hp) d_Chip_freeInPins_22 ?_
        refine lv_iload_n hx hb d_Chip_freeInPins_25 rfl (lv_at hl 0 rfl) ?_
        obtain ⟨x, hxi⟩ : ∃ z, xs[i]? = some z := ⟨_, List.getElem?_eq_getElem (by omega)⟩
        refine wd_q (cx := []) (wr := []) (pl := va_pl L (gE cO G)) (va_runV (As := [.int (nI i)]) (rest := []) ⟨hx, hb, hml, hown, hts⟩ (p_List_get l dC dI cB cI cL cZ cC cO (G := G) lp (i) xs t0 _ hL h (by omega)) (cwV 1 hts (good_V k_328 k_329 k_330 k_7 k_331) rfl rfl rfl (by decide +kernel) ⟨Nat.le_of_ble_eq_true rfl, Nat.le_of_ble_eq_true rfl⟩) (wd_preV (ci := 4) (r := (R_List, F_List, 3)) hK hP hD hS hA hF hE [] (by decide) rfl rfl (pq_at (gL_m hL h.k.1 (by decide)) (gE_7 (G := G) h.k.1))) rfl rfl hl.1 rfl (lv_room (Nat.le_of_ble_eq_true rfl)) d_Chip_freeInPins_26 ⟨Nat.le_of_ble_eq_true rfl, Nat.le_of_ble_eq_true rfl⟩) hP hD hS hA [] [] rfl rfl (by decide) (by decide) (fun r_6 _ H locs w_5 hP hD hS => ?_)
        have hP : va_P (dC, dI) cl ([] ++ va_pl L (gE cO G)) H := hP
        have hD : va_D A ([] ++ va_pl L (gE cO G)) := hD
        rw [hxi] at w_5
        subst w_5
        have kx9 := hw x (List.mem_of_getElem? hxi)
        refine pq_cast (ci := 8) (C := R_Wire) (T := F_Wire) (N := 7) hx hb hown (hts _ k_207) (hF.2.2.2.2 _ (List.mem_of_getElem? (i := 3) rfl)) hK hP (gL_m hL kx9 (by decide)) (gE_2 (G := G) kx9) rfl d_Chip_freeInPins_29 ?_
        refine lv_iconst (v := nI 0) hx hb d_Chip_freeInPins_32 (by decide) ?_
        refine pq_put (D := (dC, dI)) (ci := 8) (v := .int (nI 0)) (ty := .int) (C := R_Wire) (T := F_Wire) (N := 7) hx hb hts i_Wire t_Wire t_Wire_ok n_Wire hown hK hP hD hS (gL_m hL kx9 (by decide)) (gE_2 (G := G) kx9) rfl 5 (by decide) (hts _ k_231) (fun _ h9 => h9) rfl (by decide +kernel) rfl rfl (Nat.le_of_ble_eq_true rfl) (uE_2_5 (G := G) (v := 0) kx9) d_Chip_freeInPins_33 (fun H locs hP hD hS => ?_)
        have hP : va_P (dC, dI) cl ([] ++ va_pl L (gE cO (gN G x 5 0))) H := hP
        have hD : va_D A ([] ++ va_pl L (gE cO (gN G x 5 0))) := hD
        refine lv_iinc (v := nI (i + 1)) (lv' := [(1, .int (nI (i + 1))), (0, .ref a)]) hx hb d_Chip_freeInPins_36 hl (k := 0) rfl (nI_1 _) (by decide) rfl (fun ls hl => ?_)
        refine lv_goto (tgt := 2) hx hb d_Chip_freeInPins_39 (by decide) ?_
        have hax : a ≠ x := fun e9 => by have q9 := hw x (List.mem_of_getElem? hxi); rw [← e9, ha] at q9; cases q9
        exact ih (i + 1) (gN G x 5 0) H locs ls (by omega) (by omega) hL (LSx_N h (by rw [kx9]; decide)) ha hp (by show up2 G.2.1 x 5 0 a 6 = np; rw [up2_a _ _ _ _ hax]; exact hnp) hw (by rw [← hr, frp_u xs (min np xs.length) i, if_pos (by omega), hxi]; rfl) hP hD hS (lv_sub hl [0, 1] rfl)
set_option maxHeartbeats 4000000 in
set_option maxRecDepth 100000 in
/-- freeInPins() -/
theorem p_Chip_freeInPins (l : Launch) (dC : Nat → ClassId) (dI : Nat → Nat → Nat) (cB cI cL cZ cC cO : ClassId) {L : List Nat} {G : PG} (a lp np : Nat) (xs : List Nat) (t0 sz : Nat) (hL : gL L G) (hlen : xs.length < 1000) (hnpl : np < 1000) (h : LSx t0 G lp xs) (ha : G.1 a = 6) (hp : G.2.2.2.2.2 a 3 = some lp) (hnp : G.2.1 a 6 = np) (hw : ∀ x ∈ xs, G.1 x = 2) : Met l y_Chip_freeInPins w_Chip_freeInPins ({ frames := 3, cells := 0, slots := 0, locals := 130 }) (va_Pc [.ref a] (wB2 (dC, dI) cl [(cB, .byte), (cI, .int), (cL, .long), (cZ, .boolean), (cC, .char), (cO, .object "java/lang/Object")] sz t0 ([] ++ va_pl L (gE cO G)))) (va_Qv (fun (u : PG) => u = (frp xs (min np xs.length) 0 G)) (fun u t => wA (dC, dI) cl [(cB, .byte), (cI, .int), (cL, .long), (cZ, .boolean), (cC, .char), (cO, .object "java/lang/Object")] (va_A ([] ++ va_pl L (gE cO G)) sz) ([] ++ va_pl L (gE cO u)) t) (va_A ([] ++ va_pl L (gE cO G)) sz)) 0 0 (va_A ([] ++ va_pl L (gE cO G)) sz) := by
  refine Met.ofW (cc := b_Chip_freeInPins) (maxL := 2) (ret := none) (by decide) rfl ?_
  intro p e s m args below meth c s₁ B hml hv
  obtain ⟨rfl, ⟨hsz, hP, hK, hD0, hF⟩, hE⟩ := hv
  have hx := B.exec
  have hb := B.bytes
  have hr := B.returns
  have hts := atoms_spec (ws := w_Chip_freeInPins) B.pre
  have hts : ∀ w ∈ tb, w.before _ s = true := fun w h => hts w (List.mem_cons_of_mem _ h)
  have hown : s.vm.findClass R_Chip = some m.cls := findClass_of_methodNamed B.named
  have hlocks := B.notSynchronized
  subst hsz
  have hD := hD0.self (sz := s.heap.size)
  generalize hAe : va_A ([] ++ va_pl L (gE cO G)) s.heap.size = A at hD hF hE ⊢
  have hA : ∀ q : Nat, s.heap.size ≤ q → A q := fun q h => by rw [← hAe]; exact Or.inr h
  have hS : va_S A s.heap s.heap [] := va_S.rf
  have hP : va_P (dC, dI) cl ([] ++ va_pl L (gE cO G)) s.heap := hP
  have hl := lv_entry ([.ref a]) (n := 2) (Nat.le_of_ble_eq_true rfl)
  rw [lg_entry_eq]
  generalize (lg_sl ([.ref a]) ++ List.replicate (2 - (lg_sl ([.ref a])).length) Slot.unset).toArray = ls at hl ⊢
  have hl : lv_has ls 2 [(0, .ref a)] := hl
  refine lv_iconst (v := nI 0) hx hb d_Chip_freeInPins_0 (by decide) ?_
  refine lv_istore_n (lv' := [(1, .int (nI 0)), (0, .ref a)]) hx hb d_Chip_freeInPins_1 rfl hl (by decide) rfl (fun ls hl => ?_)
  refine lp_Chip_freeInPins (F := (frp xs (min np xs.length) 0 G)) hlen hnpl hx hb hml hown hts hA hF hE hK (fun H locs ls hP hD hS hl => ?_) (xs.length + 1) 0 G _ _ ls (by omega) (by omega) hL h ha hp hnp hw rfl hP hD hS (lv_sub hl [0, 1] rfl)
  exact wr_v hx hb hr hlocks (frp xs (min np xs.length) 0 G) rfl hK hP hD hS d_Chip_freeInPins_42
def sfo (a : Nat) (xs : List Nat) : Nat → Nat → PG → PG
  | 0, _, G => G
  | k + 1, i, G => sfo a xs k (i + 1) (sof G a (xs[i]?.getD 0))
theorem sfo_u (a : Nat) (xs : List Nat) (n i : Nat) (G : PG) : sfo a xs (n - i) i G = if i < n then sfo a xs (n - (i + 1)) (i + 1) (sof G a (xs[i]?.getD 0)) else G := by
  by_cases h : i < n
  · rw [if_pos h, show n - i = (n - (i + 1)) + 1 by omega]; rfl
  · rw [if_neg h, show n - i = 0 by omega]; rfl
theorem sof_k (G : PG) (a w : Nat) : (sof G a w).1 = G.1 ∧ (sof G a w).2.2 = G.2.2 ∧ (∀ b k, k ≠ 4 → k ≠ 8 → k ≠ 7 → (sof G a w).2.1 b k = G.2.1 b k) ∧ ∀ b, b ≠ a → b ≠ w → gs G (sof G a w) b := by
  unfold sof
  split
  · refine ⟨rfl, rfl, fun b k h1 h2 h3 => ?_, fun b h1 h2 => ((gs_N h2).tr (gs_N h1)).tr (gs_N h1)⟩
    show up2 (up2 (up2 G.2.1 w 4 _) a 8 _) a 7 _ b k = G.2.1 b k
    rw [up2_k _ _ _ _ h3, up2_k _ _ _ _ h2, up2_k _ _ _ _ h1]
  · refine ⟨rfl, rfl, fun b k h1 h2 h3 => ?_, fun b h1 h2 => (gs_N h2).tr (gs_N h1)⟩
    show up2 (up2 G.2.1 w 4 _) a 8 _ b k = G.2.1 b k
    rw [up2_k _ _ _ _ h2, up2_k _ _ _ _ h1]
theorem LSx_sof {t0 : Nat} {G : PG} {l a w : Nat} {xs : List Nat} (h : LSx t0 G l xs) (ha : G.1 a < 7) (hw : G.1 w < 7) : LSx t0 (sof G a w) l xs := LSx_of h (fun b hb => (sof_k G a w).2.2.2 b (fun e => by rcases hb with q | q; (have := h.k.1; rw [← q, e] at this; omega); (have := q.1; rw [e] at this; omega)) (fun e => by rcases hb with q | q; (have := h.k.1; rw [← q, e] at this; omega); (have := q.1; rw [e] at this; omega))) (fun x _ => by rw [(sof_k G a w).1])
theorem d_Chip_setOffsets_0 : decode b_Chip_setOffsets 0 = .ok (.aload_n 0, 1) := by decide +kernel
theorem d_Chip_setOffsets_1 : decode b_Chip_setOffsets 1 = .ok (.iconst 0, 1) := by decide +kernel
theorem d_Chip_setOffsets_2 : decode b_Chip_setOffsets 2 = .ok (.putfield 29, 3) := by decide +kernel
theorem d_Chip_setOffsets_5 : decode b_Chip_setOffsets 5 = .ok (.aload_n 0, 1) := by decide +kernel
theorem d_Chip_setOffsets_6 : decode b_Chip_setOffsets 6 = .ok (.iconst 0, 1) := by decide +kernel
theorem d_Chip_setOffsets_7 : decode b_Chip_setOffsets 7 = .ok (.putfield 26, 3) := by decide +kernel
theorem d_Chip_setOffsets_10 : decode b_Chip_setOffsets 10 = .ok (.iconst 0, 1) := by decide +kernel
theorem d_Chip_setOffsets_11 : decode b_Chip_setOffsets 11 = .ok (.istore_n 1, 1) := by decide +kernel
theorem d_Chip_setOffsets_12 : decode b_Chip_setOffsets 12 = .ok (.iload_n 1, 1) := by decide +kernel
theorem d_Chip_setOffsets_13 : decode b_Chip_setOffsets 13 = .ok (.aload_n 0, 1) := by decide +kernel
theorem d_Chip_setOffsets_14 : decode b_Chip_setOffsets 14 = .ok (.getfield 10, 3) := by decide +kernel
theorem d_Chip_setOffsets_17 : decode b_Chip_setOffsets 17 = .ok (.invokevirtual 87, 3) := by decide +kernel
theorem d_Chip_setOffsets_20 : decode b_Chip_setOffsets 20 = .ok (.if_icmp .ge 24, 3) := by decide +kernel
theorem d_Chip_setOffsets_23 : decode b_Chip_setOffsets 23 = .ok (.aload_n 0, 1) := by decide +kernel
theorem d_Chip_setOffsets_24 : decode b_Chip_setOffsets 24 = .ok (.aload_n 0, 1) := by decide +kernel
theorem d_Chip_setOffsets_25 : decode b_Chip_setOffsets 25 = .ok (.getfield 10, 3) := by decide +kernel
theorem d_Chip_setOffsets_28 : decode b_Chip_setOffsets 28 = .ok (.iload_n 1, 1) := by decide +kernel
theorem d_Chip_setOffsets_29 : decode b_Chip_setOffsets 29 = .ok (.invokevirtual 91, 3) := by decide +kernel
theorem d_Chip_setOffsets_32 : decode b_Chip_setOffsets 32 = .ok (.checkcast 54, 3) := by decide +kernel
theorem d_Chip_setOffsets_35 : decode b_Chip_setOffsets 35 = .ok (.invokevirtual 103, 3) := by decide +kernel
theorem d_Chip_setOffsets_38 : decode b_Chip_setOffsets 38 = .ok (.iinc 1 1, 3) := by decide +kernel
theorem d_Chip_setOffsets_41 : decode b_Chip_setOffsets 41 = .ok (.goto (-29), 3) := by decide +kernel
theorem d_Chip_setOffsets_44 : decode b_Chip_setOffsets 44 = .ok (.iconst 0, 1) := by decide +kernel
theorem d_Chip_setOffsets_45 : decode b_Chip_setOffsets 45 = .ok (.istore_n 1, 1) := by decide +kernel
theorem d_Chip_setOffsets_46 : decode b_Chip_setOffsets 46 = .ok (.iload_n 1, 1) := by decide +kernel
theorem d_Chip_setOffsets_47 : decode b_Chip_setOffsets 47 = .ok (.aload_n 0, 1) := by decide +kernel
theorem d_Chip_setOffsets_48 : decode b_Chip_setOffsets 48 = .ok (.getfield 16, 3) := by decide +kernel
theorem d_Chip_setOffsets_51 : decode b_Chip_setOffsets 51 = .ok (.invokevirtual 87, 3) := by decide +kernel
theorem d_Chip_setOffsets_54 : decode b_Chip_setOffsets 54 = .ok (.if_icmp .ge 24, 3) := by decide +kernel
theorem d_Chip_setOffsets_57 : decode b_Chip_setOffsets 57 = .ok (.aload_n 0, 1) := by decide +kernel
theorem d_Chip_setOffsets_58 : decode b_Chip_setOffsets 58 = .ok (.aload_n 0, 1) := by decide +kernel
theorem d_Chip_setOffsets_59 : decode b_Chip_setOffsets 59 = .ok (.getfield 16, 3) := by decide +kernel
theorem d_Chip_setOffsets_62 : decode b_Chip_setOffsets 62 = .ok (.iload_n 1, 1) := by decide +kernel
theorem d_Chip_setOffsets_63 : decode b_Chip_setOffsets 63 = .ok (.invokevirtual 91, 3) := by decide +kernel
theorem d_Chip_setOffsets_66 : decode b_Chip_setOffsets 66 = .ok (.checkcast 54, 3) := by decide +kernel
theorem d_Chip_setOffsets_69 : decode b_Chip_setOffsets 69 = .ok (.invokevirtual 103, 3) := by decide +kernel
theorem d_Chip_setOffsets_72 : decode b_Chip_setOffsets 72 = .ok (.iinc 1 1, 3) := by decide +kernel
theorem d_Chip_setOffsets_75 : decode b_Chip_setOffsets 75 = .ok (.goto (-29), 3) := by decide +kernel
theorem d_Chip_setOffsets_78 : decode b_Chip_setOffsets 78 = .ok (.return_, 1) := by decide +kernel
set_option maxHeartbeats 4000000 in
set_option maxRecDepth 100000 in
theorem lp1_Chip_setOffsets {p : Program} {l : Launch} {e : Env} {s : State} {m : MethodId} {args : Array Value} {below : List Frame} {meth : Method} {c : Code} {Q : State → Prop} {A : Nat → Prop} {dC : Nat → ClassId} {dI : Nat → Nat → Nat} {cB cI cL cZ cC cO : ClassId} {t0 : Nat} {L : List Nat} {a lp li : Nat} {xs ys : List Nat} {F : PG} (hlen : xs.length < 1000) (hlen2 : ys.length < 1000) (hx : p.tables.exec = Jvm.exec) (hb : c.code = b_Chip_setOffsets) (hml : c.maxLocals = 2) (hown : s.vm.findClass R_Chip = some m.cls) (hts : ∀ w ∈ tb, w.before args s = true) (hA : ∀ q, s.heap.size ≤ q → A q) (hF : stF A s) (hE : stE A t0 s) (hK : va_K (dC, dI) cl [(cB, .byte), (cI, .int), (cL, .long), (cZ, .boolean), (cC, .char), (cO, .object "java/lang/Object")] s)
    (kx : ∀  (H : Heap) (locs : List Loc) (ls : Array Slot), gL L F → LSx t0 F lp xs → LSx t0 F li ys → F.1 a = 6 → F.2.2.2.2.2 a 3 = some lp → F.2.2.2.2.2 a 4 = some li → (∀ x ∈ xs, F.1 x = 2 ∧ F.2.1 x 1 < 3) → (∀ x ∈ ys, F.1 x = 2 ∧ F.2.1 x 1 < 3) → va_P (dC, dI) cl ([] ++ va_pl L (gE cO F)) H → va_D A ([] ++ va_pl L (gE cO F)) → va_S A s.heap H locs → lv_has ls 2 [(0, .ref a)] → W p l e (headSpec w_Chip_setOffsets { frames := 3, cells := 0, slots := 0, locals := 130 }).room s m args below meth c H locs 0 0 Q (F0 m 44 ls [])) :
    ∀ (k : Nat) (i : Nat) (G : PG) (H : Heap) (locs : List Loc) (ls : Array Slot), xs.length < i + k → i ≤ xs.length → gL L G → LSx t0 G lp xs → LSx t0 G li ys → G.1 a = 6 → G.2.2.2.2.2 a 3 = some lp → G.2.2.2.2.2 a 4 = some li → (∀ x ∈ xs, G.1 x = 2 ∧ G.2.1 x 1 < 3) → (∀ x ∈ ys, G.1 x = 2 ∧ G.2.1 x 1 < 3) → sfo a xs (xs.length - i) i G = F → va_P (dC, dI) cl ([] ++ va_pl L (gE cO G)) H → va_D A ([] ++ va_pl L (gE cO G)) → va_S A s.heap H locs → lv_has ls 2 [(1, .int (nI i)), (0, .ref a)] → W p l e (headSpec w_Chip_setOffsets { frames := 3, cells := 0, slots := 0, locals := 130 }).room s m args below meth c H locs 0 0 Q (F0 m 12 ls []) := by
  intro k
  induction k with
  | zero =>
    intro i G H locs ls hk hi hL h h2 ha hp hi2 hw hw2 hr hP hD hS hl
    exfalso; omega
  | succ k ih =>
    intro i G H locs ls hk hi hL h h2 ha hp hi2 hw hw2 hr hP hD hS hl
    refine lv_iload_n hx hb d_Chip_setOffsets_12 rfl (lv_at hl 0 rfl) ?_
    refine lv_aload_n hx hb d_Chip_setOffsets_13 rfl (lv_at hl 1 rfl) ?_
    refine pq_get (D := (dC, dI)) (ci := 6) (v := .ref lp) (C := R_Chip) (T := F_Chip) (N := 9) hx hb hts i_Chip hown hK hP (gL_m hL ha (by decide)) (gE_6 (G := G) ha) rfl 3 (by decide) (hts _ k_172) (fun _ h9 => h9) (congrArg (fun z9 => some (va_rf z9)) hp) d_Chip_setOffsets_14 ?_
    refine wd_i (cx := []) (wr := []) (pl := va_pl L (gE cO G)) (va_runV (As := []) (rest := [.int (nI i)]) ⟨hx, hb, hml, hown, hts⟩ (p_List_size l dC dI cB cI cL cZ cC cO (G := G) lp t0 _ hL h.k.1) (cwV 0 hts (good_V k_324 k_325 k_326 k_7 k_327) rfl rfl rfl (by decide +kernel) ⟨Nat.le_of_ble_eq_true rfl, Nat.le_of_ble_eq_true rfl⟩) (wd_preV (ci := 4) (r := (R_List, F_List, 3)) hK hP hD hS hA hF hE [] (by decide) rfl rfl (pq_at (gL_m hL h.k.1 (by decide)) (gE_7 (G := G) h.k.1))) rfl rfl hl.1 rfl (lv_room (Nat.le_of_ble_eq_true rfl)) d_Chip_setOffsets_17 ⟨Nat.le_of_ble_eq_true rfl, Nat.le_of_ble_eq_true rfl⟩) hP hD hS hA [] [] rfl rfl (by decide) (by decide) (fun r_2 _ H locs w_1 hP hD hS => ?_)
    have hP : va_P (dC, dI) cl ([] ++ va_pl L (gE cO G)) H := hP
    have hD : va_D A ([] ++ va_pl L (gE cO G)) := hD
    rw [h.k.2] at w_1
    subst w_1
    refine nv_icmp_ge (tgt := 44) hx hb (by omega) (by omega) d_Chip_setOffsets_20 (by decide) (fun c_3 => ?_) (fun c_3 => ?_)
    · have hq : G = F := by rw [← hr, sfo_u, if_neg (by omega)]
      subst hq
      exact kx H locs ls hL h h2 ha hp hi2 hw hw2 hP hD hS (lv_sub hl [1] rfl)
    · refine lv_aload_n hx hb d_Chip_setOffsets_23 rfl (lv_at hl 1 rfl) ?_
      refine lv_aload_n hx hb d_Chip_setOffsets_24 rfl (lv_at hl 1 rfl) ?_
      refine pq_get (D := (dC, dI)) (ci := 6) (v := .ref lp) (C := R_Chip) (T := F_Chip) (N := 9) hx hb hts i_Chip hown hK hP (gL_m hL ha (by decide)) (gE_6 (G := G) ha) rfl 3 (by decide) (hts _ k_172) (fun _ h9 => h9) (congrArg (fun z9 => some (va_rf z9)) hp) d_Chip_setOffsets_25 ?_
      refine lv_iload_n hx hb d_Chip_setOffsets_28 rfl (lv_at hl 0 rfl) ?_
      obtain ⟨x, hxi⟩ : ∃ z, xs[i]? = some z := ⟨_, List.getElem?_eq_getElem (by omega)⟩
      refine wd_q (cx := []) (wr := []) (pl := va_pl L (gE cO G)) (va_runV (As := [.int (nI i)]) (rest := [.ref a]) ⟨hx, hb, hml, hown, hts⟩ (p_List_get l dC dI cB cI cL cZ cC cO (G := G) lp (i) xs t0 _ hL h (by omega)) (cwV 1 hts (good_V k_328 k_329 k_330 k_7 k_331) rfl rfl rfl (by decide +kernel) ⟨Nat.le_of_ble_eq_true rfl, Nat.le_of_ble_eq_true rfl⟩) (wd_preV (ci := 4) (r := (R_List, F_List, 3)) hK hP hD hS hA hF hE [] (by decide) rfl rfl (pq_at (gL_m hL h.k.1 (by decide)) (gE_7 (G := G) h.k.1))) rfl rfl hl.1 rfl (lv_room (Nat.le_of_ble_eq_true rfl)) d_Chip_setOffsets_29 ⟨Nat.le_of_ble_eq_true rfl, Nat.le_of_ble_eq_true rfl⟩) hP hD hS hA [] [] rfl rfl (by decide) (by decide) (fun r_5 _ H locs w_4 hP hD hS => ?_)
      have hP : va_P (dC, dI) cl ([] ++ va_pl L (gE cO G)) H := hP
      have hD : va_D A ([] ++ va_pl L (gE cO G)) := hD
      rw [hxi] at w_4
      subst w_4
      have kx9 := hw x (List.mem_of_getElem? hxi)
      refine pq_cast (ci := 8) (C := R_Wire) (T := F_Wire) (N := 7) hx hb hown (hts _ k_207) (hF.2.2.2.2 _ (List.mem_of_getElem? (i := 3) rfl)) hK hP (gL_m hL kx9.1 (by decide)) (gE_2 (G := G) kx9.1) rfl d_Chip_setOffsets_32 ?_
      refine wd_v (cx := []) (wr := []) (pl := va_pl L (gE cO G)) (va_runV (As := [.ref x]) (rest := []) ⟨hx, hb, hml, hown, hts⟩ (p_Chip_setOffset l dC dI cB cI cL cZ cC cO a x t0 _ hL ha kx9.1 kx9.2) (cwV 1 hts (good_V k_342 k_344 s_Chip_setOffset k_9 k_345) rfl rfl rfl (by decide +kernel) ⟨Nat.le_of_ble_eq_true rfl, Nat.le_of_ble_eq_true rfl⟩) (wd_preV (ci := 6) (r := (R_Chip, F_Chip, 9)) hK hP hD hS hA hF hE [] (by decide) rfl rfl (pq_at (gL_m hL ha (by decide)) (gE_6 (G := G) ha))) rfl rfl hl.1 rfl (lv_room (Nat.le_of_ble_eq_true rfl)) d_Chip_setOffsets_35 ⟨Nat.le_of_ble_eq_true rfl, Nat.le_of_ble_eq_true rfl⟩) hP hD hS hA [] [] rfl rfl (by decide) (by decide) (fun u H locs w_6 hP hD hS => ?_)
      have hP : va_P (dC, dI) cl ([] ++ va_pl L (gE cO u)) H := hP
      have hD : va_D A ([] ++ va_pl L (gE cO u)) := hD
      subst w_6
      have hP : va_P (dC, dI) cl ([] ++ va_pl L (gE cO (sof G a x))) H := hP
      have hD : va_D A ([] ++ va_pl L (gE cO (sof G a x))) := hD
      refine lv_iinc (v := nI (i + 1)) (lv' := [(1, .int (nI (i + 1))), (0, .ref a)]) hx hb d_Chip_setOffsets_38 hl (k := 0) rfl (nI_1 _) (by decide) rfl (fun ls hl => ?_)
      refine lv_goto (tgt := 12) hx hb d_Chip_setOffsets_41 (by decide) ?_
      obtain ⟨s1, s2, s3, s4⟩ := sof_k G a x
      exact ih (i + 1) (sof G a x) H locs ls (by omega) (by omega) (fun b hb9 => hL b (by rw [s1] at hb9; exact hb9)) (LSx_sof h (by rw [ha]; decide) (by rw [kx9.1]; decide)) (LSx_sof h2 (by rw [ha]; decide) (by rw [kx9.1]; decide)) (by rw [s1]; exact ha) (by rw [s2]; exact hp) (by rw [s2]; exact hi2) (fun z hz => ⟨by rw [s1]; exact (hw z hz).1, by rw [s3 _ _ (by decide) (by decide) (by decide)]; exact (hw z hz).2⟩) (fun z hz => ⟨by rw [s1]; exact (hw2 z hz).1, by rw [s3 _ _ (by decide) (by decide) (by decide)]; exact (hw2 z hz).2⟩) (by rw [← hr, sfo_u a xs xs.length i, if_pos (by omega), hxi]; rfl) hP hD hS (lv_sub hl [0, 1] rfl)
set_option maxHeartbeats 4000000 in
set_option maxRecDepth 100000 in
theorem lp2_Chip_setOffsets {p : Program} {l : Launch} {e : Env} {s : State} {m : MethodId} {args : Array Value} {below : List Frame} {meth : Method} {c : Code} {Q : State → Prop} {A : Nat → Prop} {dC : Nat → ClassId} {dI : Nat → Nat → Nat} {cB cI cL cZ cC cO : ClassId} {t0 : Nat} {L : List Nat} {a lp li : Nat} {xs ys : List Nat} {F : PG} (hlen : xs.length < 1000) (hlen2 : ys.length < 1000) (hx : p.tables.exec = Jvm.exec) (hb : c.code = b_Chip_setOffsets) (hml : c.maxLocals = 2) (hown : s.vm.findClass R_Chip = some m.cls) (hts : ∀ w ∈ tb, w.before args s = true) (hA : ∀ q, s.heap.size ≤ q → A q) (hF : stF A s) (hE : stE A t0 s) (hK : va_K (dC, dI) cl [(cB, .byte), (cI, .int), (cL, .long), (cZ, .boolean), (cC, .char), (cO, .object "java/lang/Object")] s)
    (kx : ∀  (H : Heap) (locs : List Loc) (ls : Array Slot), gL L F → LSx t0 F lp xs → LSx t0 F li ys → F.1 a = 6 → F.2.2.2.2.2 a 3 = some lp → F.2.2.2.2.2 a 4 = some li → (∀ x ∈ xs, F.1 x = 2 ∧ F.2.1 x 1 < 3) → (∀ x ∈ ys, F.1 x = 2 ∧ F.2.1 x 1 < 3) → va_P (dC, dI) cl ([] ++ va_pl L (gE cO F)) H → va_D A ([] ++ va_pl L (gE cO F)) → va_S A s.heap H locs → lv_has ls 2 [(0, .ref a)] → W p l e (headSpec w_Chip_setOffsets { frames := 3, cells := 0, slots := 0, locals := 130 }).room s m args below meth c H locs 0 0 Q (F0 m 78 ls [])) :
    ∀ (k : Nat) (i : Nat) (G : PG) (H : Heap) (locs : List Loc) (ls : Array Slot), ys.length < i + k → i ≤ ys.length → gL L G → LSx t0 G lp xs → LSx t0 G li ys → G.1 a = 6 → G.2.2.2.2.2 a 3 = some lp → G.2.2.2.2.2 a 4 = some li → (∀ x ∈ xs, G.1 x = 2 ∧ G.2.1 x 1 < 3) → (∀ x ∈ ys, G.1 x = 2 ∧ G.2.1 x 1 < 3) → sfo a ys (ys.length - i) i G = F → va_P (dC, dI) cl ([] ++ va_pl L (gE cO G)) H → va_D A ([] ++ va_pl L (gE cO G)) → va_S A s.heap H locs → lv_has ls 2 [(1, .int (nI i)), (0, .ref a)] → W p l e (headSpec w_Chip_setOffsets { frames := 3, cells := 0, slots := 0, locals := 130 }).room s m args below meth c H locs 0 0 Q (F0 m 46 ls []) := by
  intro k
  induction k with
  | zero =>
    intro i G H locs ls hk hi hL h h2 ha hp hi2 hw hw2 hr hP hD hS hl
    exfalso; omega
  | succ k ih =>
    intro i G H locs ls hk hi hL h h2 ha hp hi2 hw hw2 hr hP hD hS hl
    refine lv_iload_n hx hb d_Chip_setOffsets_46 rfl (lv_at hl 0 rfl) ?_
    refine lv_aload_n hx hb d_Chip_setOffsets_47 rfl (lv_at hl 1 rfl) ?_
    refine pq_get (D := (dC, dI)) (ci := 6) (v := .ref li) (C := R_Chip) (T := F_Chip) (N := 9) hx hb hts i_Chip hown hK hP (gL_m hL ha (by decide)) (gE_6 (G := G) ha) rfl 4 (by decide) (hts _ k_176) (fun _ h9 => h9) (congrArg (fun z9 => some (va_rf z9)) hi2) d_Chip_setOffsets_48 ?_
    refine wd_i (cx := []) (wr := []) (pl := va_pl L (gE cO G)) (va_runV (As := []) (rest := [.int (nI i)]) ⟨hx, hb, hml, hown, hts⟩ (p_List_size l dC dI cB cI cL cZ cC cO (G := G) li t0 _ hL h2.k.1) (cwV 0 hts (good_V k_324 k_325 k_326 k_7 k_327) rfl rfl rfl (by decide +kernel) ⟨Nat.le_of_ble_eq_true rfl, Nat.le_of_ble_eq_true rfl⟩) (wd_preV (ci := 4) (r := (R_List, F_List, 3)) hK hP hD hS hA hF hE [] (by decide) rfl rfl (pq_at (gL_m hL h2.k.1 (by decide)) (gE_7 (G := G) h2.k.1))) rfl rfl hl.1 rfl (lv_room (Nat.le_of_ble_eq_true rfl)) d_Chip_setOffsets_51 ⟨Nat.le_of_ble_eq_true rfl, Nat.le_of_ble_eq_true rfl⟩) hP hD hS hA [] [] rfl rfl (by decide) (by decide) (fun r_2 _ H locs w_1 hP hD hS => ?_)
    have hP : va_P (dC, dI) cl ([] ++ va_pl L (gE cO G)) H := hP
    have hD : va_D A ([] ++ va_pl L (gE cO G)) := hD
    rw [h2.k.2] at w_1
    subst w_1
    refine nv_icmp_ge (tgt := 78) hx hb (by omega) (by omega) d_Chip_setOffsets_54 (by decide) (fun c_3 => ?_) (fun c_3 => ?_)
    · have hq : G = F := by rw [← hr, sfo_u, if_neg (by omega)]
      subst hq
      exact kx H locs ls hL h h2 ha hp hi2 hw hw2 hP hD hS (lv_sub hl [1] rfl)
    · refine lv_aload_n hx hb d_Chip_setOffsets_57 rfl (lv_at hl 1 rfl) ?_
      refine lv_aload_n hx hb d_Chip_setOffsets_58 rfl (lv_at hl 1 rfl) ?_
      refine pq_get (D := (dC, dI)) (ci := 6) (v := .ref li) (C := R_Chip) (T := F_Chip) (N := 9) hx hb hts i_Chip hown hK hP (gL_m hL ha (by decide)) (gE_6 (G := G) ha) rfl 4 (by decide) (hts _ k_176) (fun _ h9 => h9) (congrArg (fun z9 => some (va_rf z9)) hi2) d_Chip_setOffsets_59 ?_
      refine lv_iload_n hx hb d_Chip_setOffsets_62 rfl (lv_at hl 0 rfl) ?_
      obtain ⟨x, hxi⟩ : ∃ z, ys[i]? = some z := ⟨_, List.getElem?_eq_getElem (by omega)⟩
      refine wd_q (cx := []) (wr := []) (pl := va_pl L (gE cO G)) (va_runV (As := [.int (nI i)]) (rest := [.ref a]) ⟨hx, hb, hml, hown, hts⟩ (p_List_get l dC dI cB cI cL cZ cC cO (G := G) li (i) ys t0 _ hL h2 (by omega)) (cwV 1 hts (good_V k_328 k_329 k_330 k_7 k_331) rfl rfl rfl (by decide +kernel) ⟨Nat.le_of_ble_eq_true rfl, Nat.le_of_ble_eq_true rfl⟩) (wd_preV (ci := 4) (r := (R_List, F_List, 3)) hK hP hD hS hA hF hE [] (by decide) rfl rfl (pq_at (gL_m hL h2.k.1 (by decide)) (gE_7 (G := G) h2.k.1))) rfl rfl hl.1 rfl (lv_room (Nat.le_of_ble_eq_true rfl)) d_Chip_setOffsets_63 ⟨Nat.le_of_ble_eq_true rfl, Nat.le_of_ble_eq_true rfl⟩) hP hD hS hA [] [] rfl rfl (by decide) (by decide) (fun r_5 _ H locs w_4 hP hD hS => ?_)
      have hP : va_P (dC, dI) cl ([] ++ va_pl L (gE cO G)) H := hP
      have hD : va_D A ([] ++ va_pl L (gE cO G)) := hD
      rw [hxi] at w_4
      subst w_4
      have kx9 := hw2 x (List.mem_of_getElem? hxi)
      refine pq_cast (ci := 8) (C := R_Wire) (T := F_Wire) (N := 7) hx hb hown (hts _ k_207) (hF.2.2.2.2 _ (List.mem_of_getElem? (i := 3) rfl)) hK hP (gL_m hL kx9.1 (by decide)) (gE_2 (G := G) kx9.1) rfl d_Chip_setOffsets_66 ?_
      refine wd_v (cx := []) (wr := []) (pl := va_pl L (gE cO G)) (va_runV (As := [.ref x]) (rest := []) ⟨hx, hb, hml, hown, hts⟩ (p_Chip_setOffset l dC dI cB cI cL cZ cC cO a x t0 _ hL ha kx9.1 kx9.2) (cwV 1 hts (good_V k_342 k_344 s_Chip_setOffset k_9 k_345) rfl rfl rfl (by decide +kernel) ⟨Nat.le_of_ble_eq_true rfl, Nat.le_of_ble_eq_true rfl⟩) (wd_preV (ci := 6) (r := (R_Chip, F_Chip, 9)) hK hP hD hS hA hF hE [] (by decide) rfl rfl (pq_at (gL_m hL ha (by decide)) (gE_6 (G := G) ha))) rfl rfl hl.1 rfl (lv_room (Nat.le_of_ble_eq_true rfl)) d_Chip_setOffsets_69 ⟨Nat.le_of_ble_eq_true rfl, Nat.le_of_ble_eq_true rfl⟩) hP hD hS hA [] [] rfl rfl (by decide) (by decide) (fun u H locs w_6 hP hD hS => ?_)
      have hP : va_P (dC, dI) cl ([] ++ va_pl L (gE cO u)) H := hP
      have hD : va_D A ([] ++ va_pl L (gE cO u)) := hD
      subst w_6
      have hP : va_P (dC, dI) cl ([] ++ va_pl L (gE cO (sof G a x))) H := hP
      have hD : va_D A ([] ++ va_pl L (gE cO (sof G a x))) := hD
      refine lv_iinc (v := nI (i + 1)) (lv' := [(1, .int (nI (i + 1))), (0, .ref a)]) hx hb d_Chip_setOffsets_72 hl (k := 0) rfl (nI_1 _) (by decide) rfl (fun ls hl => ?_)
      refine lv_goto (tgt := 46) hx hb d_Chip_setOffsets_75 (by decide) ?_
      obtain ⟨s1, s2, s3, s4⟩ := sof_k G a x
      exact ih (i + 1) (sof G a x) H locs ls (by omega) (by omega) (fun b hb9 => hL b (by rw [s1] at hb9; exact hb9)) (LSx_sof h (by rw [ha]; decide) (by rw [kx9.1]; decide)) (LSx_sof h2 (by rw [ha]; decide) (by rw [kx9.1]; decide)) (by rw [s1]; exact ha) (by rw [s2]; exact hp) (by rw [s2]; exact hi2) (fun z hz => ⟨by rw [s1]; exact (hw z hz).1, by rw [s3 _ _ (by decide) (by decide) (by decide)]; exact (hw z hz).2⟩) (fun z hz => ⟨by rw [s1]; exact (hw2 z hz).1, by rw [s3 _ _ (by decide) (by decide) (by decide)]; exact (hw2 z hz).2⟩) (by rw [← hr, sfo_u a ys ys.length i, if_pos (by omega), hxi]; rfl) hP hD hS (lv_sub hl [0, 1] rfl)
set_option maxHeartbeats 4000000 in
set_option maxRecDepth 100000 in
/-- setOffsets() -/
theorem p_Chip_setOffsets (l : Launch) (dC : Nat → ClassId) (dI : Nat → Nat → Nat) (cB cI cL cZ cC cO : ClassId) {L : List Nat} {G : PG} (a lp li : Nat) (xs ys : List Nat) (t0 sz : Nat) (hlen : xs.length < 1000) (hlen2 : ys.length < 1000) (hL : gL L G) (h : LSx t0 G lp xs) (h2 : LSx t0 G li ys) (ha : G.1 a = 6) (hp : G.2.2.2.2.2 a 3 = some lp) (hi2 : G.2.2.2.2.2 a 4 = some li) (hw : (∀ x ∈ xs, G.1 x = 2 ∧ G.2.1 x 1 < 3)) (hw2 : (∀ x ∈ ys, G.1 x = 2 ∧ G.2.1 x 1 < 3)) : Met l y_Chip_setOffsets w_Chip_setOffsets ({ frames := 3, cells := 0, slots := 0, locals := 130 }) (va_Pc [.ref a] (wB2 (dC, dI) cl [(cB, .byte), (cI, .int), (cL, .long), (cZ, .boolean), (cC, .char), (cO, .object "java/lang/Object")] sz t0 ([] ++ va_pl L (gE cO G)))) (va_Qv (fun (u : PG) => u = (sfo a ys ys.length 0 (sfo a xs xs.length 0 (gN (gN G a 8 0) a 7 0)))) (fun u t => wA (dC, dI) cl [(cB, .byte), (cI, .int), (cL, .long), (cZ, .boolean), (cC, .char), (cO, .object "java/lang/Object")] (va_A ([] ++ va_pl L (gE cO G)) sz) ([] ++ va_pl L (gE cO u)) t) (va_A ([] ++ va_pl L (gE cO G)) sz)) 0 0 (va_A ([] ++ va_pl L (gE cO G)) sz) := by
  refine Met.ofW (cc := b_Chip_setOffsets) (maxL := 2) (ret := none) (by decide) rfl ?_
  intro p e s m args below meth c s₁ B hml hv
  obtain ⟨rfl, ⟨hsz, hP, hK, hD0, hF⟩, hE⟩ := hv
  have hx := B.exec
  have hb := B.bytes
  have hr := B.returns
  have hts := atoms_spec (ws := w_Chip_setOffsets) B.pre
  have hts : ∀ w ∈ tb, w.before _ s = true := fun w h => hts w (List.mem_cons_of_mem _ h)
  have hown : s.vm.findClass R_Chip = some m.cls := findClass_of_methodNamed B.named
  have hlocks := B.notSynchronized
  subst hsz
  have hD := hD0.self (sz := s.heap.size)
  generalize hAe : va_A ([] ++ va_pl L (gE cO G)) s.heap.size = A at hD hF hE ⊢
  have hA : ∀ q : Nat, s.heap.size ≤ q → A q := fun q h => by rw [← hAe]; exact Or.inr h
  have hS : va_S A s.heap s.heap [] := va_S.rf
  have hP : va_P (dC, dI) cl ([] ++ va_pl L (gE cO G)) s.heap := hP
  have hl := lv_entry ([.ref a]) (n := 2) (Nat.le_of_ble_eq_true rfl)
  rw [lg_entry_eq]
  generalize (lg_sl ([.ref a]) ++ List.replicate (2 - (lg_sl ([.ref a])).length) Slot.unset).toArray = ls at hl ⊢
  have hl : lv_has ls 2 [(0, .ref a)] := hl
  refine lv_aload_n hx hb d_Chip_setOffsets_0 rfl (lv_at hl 0 rfl) ?_
  refine lv_iconst (v := nI 0) hx hb d_Chip_setOffsets_1 (by decide) ?_
  refine pq_put (D := (dC, dI)) (ci := 6) (v := .int (nI 0)) (ty := .int) (C := R_Chip) (T := F_Chip) (N := 9) hx hb hts i_Chip t_Chip t_Chip_ok n_Chip hown hK hP hD hS (gL_m hL ha (by decide)) (gE_6 (G := G) ha) rfl 8 (by decide) (hts _ k_186) (fun _ h9 => h9) rfl (by decide +kernel) rfl rfl (Nat.le_of_ble_eq_true rfl) (uE_6_8 (G := G) (v := 0) ha) d_Chip_setOffsets_2 (fun H locs hP hD hS => ?_)
  have hP : va_P (dC, dI) cl ([] ++ va_pl L (gE cO (gN G a 8 0))) H := hP
  have hD : va_D A ([] ++ va_pl L (gE cO (gN G a 8 0))) := hD
  refine lv_aload_n hx hb d_Chip_setOffsets_5 rfl (lv_at hl 0 rfl) ?_
  refine lv_iconst (v := nI 0) hx hb d_Chip_setOffsets_6 (by decide) ?_
  refine pq_put (D := (dC, dI)) (ci := 6) (v := .int (nI 0)) (ty := .int) (C := R_Chip) (T := F_Chip) (N := 9) hx hb hts i_Chip t_Chip t_Chip_ok n_Chip hown hK hP hD hS (gL_m hL ha (by decide)) (gE_6 (G := (gN G a 8 0)) ha) rfl 7 (by decide) (hts _ k_184) (fun _ h9 => h9) rfl (by decide +kernel) rfl rfl (Nat.le_of_ble_eq_true rfl) (uE_6_7 (G := (gN G a 8 0)) (v := 0) ha) d_Chip_setOffsets_7 (fun H locs hP hD hS => ?_)
  have hP : va_P (dC, dI) cl ([] ++ va_pl L (gE cO (gN (gN G a 8 0) a 7 0))) H := hP
  have hD : va_D A ([] ++ va_pl L (gE cO (gN (gN G a 8 0) a 7 0))) := hD
  refine lv_iconst (v := nI 0) hx hb d_Chip_setOffsets_10 (by decide) ?_
  refine lv_istore_n (lv' := [(1, .int (nI 0)), (0, .ref a)]) hx hb d_Chip_setOffsets_11 rfl hl (by decide) rfl (fun ls hl => ?_)
  refine lp1_Chip_setOffsets (F := (sfo a xs xs.length 0 (gN (gN G a 8 0) a 7 0))) hlen hlen2 hx hb hml hown hts hA hF hE hK (fun H locs ls hL h h2 ha hp hi2 hw hw2 hP hD hS hl => ?_) (xs.length + 1) 0 (gN (gN G a 8 0) a 7 0) _ _ ls (by omega) (by omega) hL (LSx_N (LSx_N h (by rw [ha]; decide)) (show G.1 a < 7 by rw [ha]; decide)) (LSx_N (LSx_N h2 (by rw [ha]; decide)) (show G.1 a < 7 by rw [ha]; decide)) ha hp hi2 (fun z hz => ⟨(hw z hz).1, by show up2 (up2 G.2.1 a 8 0) a 7 0 z 1 < 3; rw [up2_k _ _ _ _ (by decide), up2_k _ _ _ _ (by decide)]; exact (hw z hz).2⟩) (fun z hz => ⟨(hw2 z hz).1, by show up2 (up2 G.2.1 a 8 0) a 7 0 z 1 < 3; rw [up2_k _ _ _ _ (by decide), up2_k _ _ _ _ (by decide)]; exact (hw2 z hz).2⟩) rfl hP hD hS (lv_sub hl [0, 1] rfl)
  refine lv_iconst (v := nI 0) hx hb d_Chip_setOffsets_44 (by decide) ?_
  refine lv_istore_n (lv' := [(1, .int (nI 0)), (0, .ref a)]) hx hb d_Chip_setOffsets_45 rfl hl (by decide) rfl (fun ls hl => ?_)
  refine lp2_Chip_setOffsets (F := (sfo a ys ys.length 0 (sfo a xs xs.length 0 (gN (gN G a 8 0) a 7 0)))) hlen hlen2 hx hb hml hown hts hA hF hE hK (fun H locs ls hL h h2 ha hp hi2 hw hw2 hP hD hS hl => ?_) (ys.length + 1) 0 (sfo a xs xs.length 0 (gN (gN G a 8 0) a 7 0)) _ _ ls (by omega) (by omega) hL h h2 ha hp hi2 hw hw2 rfl hP hD hS (lv_sub hl [0, 1] rfl)
  exact wr_v hx hb hr hlocks (sfo a ys ys.length 0 (sfo a xs xs.length 0 (gN (gN G a 8 0) a 7 0))) rfl hK hP hD hS d_Chip_setOffsets_78
