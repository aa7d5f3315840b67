theorem wd_preS3 {s : State} {H : Heap} {locs : List Loc} {av : List Value} {t mi : Nat} {A : Nat → Prop} {D : va_G} {cl : List vw_C} {tys : List (ClassId × FieldType)} {X cx pl : va_W} (hK : va_K D cl tys s) (hP : va_P D cl (X ++ pl) H) (hD : va_D A (X ++ pl)) (hS : va_S A s.heap H locs) (hA : ∀ q, s.heap.size ≤ q → A q) (hF : stF A s) (hE : stE A t s) (isC : List Nat) (hn : va_nd isC = true) (hC : isC.map (fun i => X[i]?) = cx.map some) (hM : va_Mi "[Ljava/lang/Object;" mi s) : PreS s H (va_Pc av (fun U => wB2 D cl tys H.size t (cx ++ pl) U ∧ va_Mi "[Ljava/lang/Object;" mi U)) av :=
  ⟨fun a U g mk q => ⟨q.1, (wd_blind a U g mk ⟨q.1, q.2.1⟩).2, q.2.2.moved (Vm.Alike.refl U.vm)⟩, fun U hU hW => ⟨rfl, ((wd_preS (av := av) hK hP hD hS hA hF hE isC hn hC).2 U hU hW).2, hM.moved hW.alike⟩⟩
theorem ishr_1 : ∀ n, n < 700 → nI n >>> (nI 1 &&& 31) = nI (n / 2) := by decide +kernel
theorem el_0 {G : PG} {d q m n : Nat} (h : ∀ i, i < n → ∀ y, G.2.2.2.2.2 d i = some y → 0 < G.1 y ∧ G.1 y < 7) (hd : d ≠ q) (hq : G.1 q = 0) {k : Nat} (hk : k ≤ n) : ∀ i, i < k → ∀ y, (g0 G q m).2.2.2.2.2 d i = some y → 0 < (g0 G q m).1 y ∧ (g0 G q m).1 y < 7 := by
  intro i hi y hy
  rw [(gs_0 hd).2.2.2.2.2] at hy
  have h1 := h i (by omega) y hy
  have hy2 : y ≠ q := fun e => by rw [e, hq] at h1; exact absurd h1.1 (by decide)
  rw [(gs_0 hy2).1]; exact h1
/-- a list's array is full: a greater one, with the same elements -/
def grw (G : PG) (a d n k q : Nat) : PG := gN (gR (gW (g0 G q (k + 8)) q (va_cpy ((g0 G q (k + 8)).2.2.2.2.2 d) ((g0 G q (k + 8)).2.2.2.2.2 q) 0 0 (min n k))) a 0 (some q)) q 9 a
theorem LSd_grw {G : PG} {a d n k q : Nat} {xs : List Nat} {L : List Nat} (h : LSd G a xs d n) (hL : gL L G) (hq : q ∉ L) (hk : n < k) (hk2 : k ≤ 600) : LSd (grw G a d n k q) a xs q k ∧ gL (L ++ [q]) (grw G a d n k q) ∧ LF G (grw G a d n k q) a := by
  obtain ⟨h1, h2, h3, h4, h5, h6, h7, h8, h9⟩ := h
  have hq0 := g0_n hL hq
  have haq : a ≠ q := fun e => by rw [e, hq0] at h1; cases h1
  have hdq : d ≠ q := fun e => by rw [e, hq0] at h4; omega
  have hb : ∀ b, b ≠ q → b ≠ a → gs G (grw G a d n k q) b := fun b e1 e2 => (((gs_0 e1).tr (gs_W e1)).tr (gs_R e2)).tr (gs_N e1)
  refine ⟨⟨?_, ?_, ?_, ?_, by omega, ⟨by omega, hk2⟩, ?_, fun i hi => ?_, fun x hx => ?_⟩, fun b hb0 => ?_, fun b hb1 hb2 _ => hb b (fun e => hb1 (by rw [e]; exact hq0)) hb2⟩
  · show (va_up G.1 q (k + 8)) a = 7; rw [va_up_ne _ _ haq]; exact h1
  · show up2 (va_up G.2.1 q (fun _ => 0)) q 9 a a 1 = xs.length
    rw [up2_a _ _ _ _ haq, va_up_ne _ _ haq]; exact h2
  · show up2 _ a 0 (some q) a 0 = some q
    exact up2_s _ _ _ _
  · show (va_up G.1 q (k + 8)) q = k + 8; exact va_up_self _ _ _
  · show up2 (va_up G.2.1 q (fun _ => 0)) q 9 a q 9 = a; exact up2_s _ _ _ _
  · show up2 (va_up (g0 G q (k + 8)).2.2.2.2.2 q (va_cpy ((g0 G q (k + 8)).2.2.2.2.2 d) ((g0 G q (k + 8)).2.2.2.2.2 q) 0 0 (min n k))) a 0 (some q) q i = xs[i]?
    rw [up2_a _ _ _ _ (Ne.symm haq), va_up_self]
    unfold va_cpy
    rw [if_pos ⟨Nat.zero_le _, by omega⟩, Nat.zero_add, Nat.sub_zero, (gs_0 hdq).2.2.2.2.2]
    exact h8 i hi
  · have h10 := h9 x hx
    have hxq : x ≠ q := fun e => by rw [e, hq0] at h10; exact absurd h10.1 (by decide)
    show 0 < (va_up G.1 q (k + 8)) x ∧ (va_up G.1 q (k + 8)) x < 7
    rw [va_up_ne _ _ hxq]; exact h10
  · by_cases e : b = q
    · rw [e]; exact List.mem_append_right _ (List.mem_singleton.mpr rfl)
    · have : G.1 b ≠ 0 := by
        have h11 : (va_up G.1 q (k + 8)) b ≠ 0 := hb0
        rw [va_up_ne _ _ e] at h11; exact h11
      exact List.mem_append_left _ (hL b this)
/-- the first array of a list -/
def grn (G : PG) (a k q : Nat) : PG := gN (gR (g0 G q (k + 8)) a 0 (some q)) q 9 a
theorem LSd_grn {G : PG} {a k q : Nat} {L : List Nat} (h1 : G.1 a = 7) (h2 : G.2.1 a 1 = 0) (hL : gL L G) (hq : q ∉ L) (hk1 : 1 ≤ k) (hk2 : k ≤ 600) : LSd (grn G a k q) a [] q k ∧ gL (L ++ [q]) (grn G a k q) ∧ LF G (grn G a k q) a := by
  have hq0 := g0_n hL hq
  have haq : a ≠ q := fun e => by rw [e, hq0] at h1; cases h1
  have hb : ∀ b, b ≠ q → b ≠ a → gs G (grn G a k q) b := fun b e1 e2 => ((gs_0 e1).tr (gs_R e2)).tr (gs_N e1)
  refine ⟨⟨?_, ?_, ?_, ?_, Nat.zero_le _, ⟨hk1, hk2⟩, ?_, fun i hi => absurd hi (Nat.not_lt_zero _), fun x hx => absurd hx List.not_mem_nil⟩, fun b hb0 => ?_, fun b hb1 hb2 _ => hb b (fun e => hb1 (by rw [e]; exact hq0)) hb2⟩
  · show (va_up G.1 q (k + 8)) a = 7; rw [va_up_ne _ _ haq]; exact h1
  · show up2 (va_up G.2.1 q (fun _ => 0)) q 9 a a 1 = 0
    rw [up2_a _ _ _ _ haq, va_up_ne _ _ haq]; exact h2
  · show up2 _ a 0 (some q) a 0 = some q
    exact up2_s _ _ _ _
  · show (va_up G.1 q (k + 8)) q = k + 8; exact va_up_self _ _ _
  · show up2 (va_up G.2.1 q (fun _ => 0)) q 9 a q 9 = a; exact up2_s _ _ _ _
  · by_cases e : b = q
    · rw [e]; exact List.mem_append_right _ (List.mem_singleton.mpr rfl)
    · have : G.1 b ≠ 0 := by
        have h11 : (va_up G.1 q (k + 8)) b ≠ 0 := hb0
        rw [va_up_ne _ _ e] at h11; exact h11
      exact List.mem_append_left _ (hL b this)
def psh (G : PG) (a d i y : Nat) : PG := gN (gR G d i (some y)) a 1 (i + 1)
theorem LSd_psh {G : PG} {a d n y : Nat} {xs : List Nat} (h : LSd G a xs d n) (hn : xs.length < n) (hy : 0 < G.1 y ∧ G.1 y < 7) : LSd (psh G a d xs.length y) a (xs ++ [y]) d n ∧ LF G (psh G a d xs.length y) a := by
  obtain ⟨h1, h2, h3, h4, h5, h6, h7, h8, h9⟩ := h
  have hda : a ≠ d := fun e => by rw [e, h4] at h1; omega
  refine ⟨⟨h1, ?_, ?_, h4, by rw [List.length_append]; exact hn, h6, ?_, fun i hi => ?_, fun x hx => ?_⟩, fun b hb1 hb2 hb3 => ?_⟩
  · show up2 G.2.1 a 1 (xs.length + 1) a 1 = (xs ++ [y]).length
    rw [up2_s, List.length_append]; rfl
  · show up2 G.2.2.2.2.2 d xs.length (some y) a 0 = some d
    rw [up2_a _ _ _ _ hda]; exact h3
  · show up2 G.2.1 a 1 (xs.length + 1) d 9 = a
    rw [up2_k _ _ _ _ (by decide)]; exact h7
  · show up2 G.2.2.2.2.2 d xs.length (some y) d i = (xs ++ [y])[i]?
    rw [List.length_append, List.length_singleton] at hi
    by_cases e : i = xs.length
    · rw [e, up2_s, List.getElem?_append_right (Nat.le_refl _), Nat.sub_self]; rfl
    · rw [up2_k _ _ _ _ e, List.getElem?_append_left (by omega)]; exact h8 i (by omega)
  · rcases List.mem_append.mp hx with q | q
    · exact h9 x q
    · rw [List.mem_singleton.mp q]; exact hy
  · have hbd : b ≠ d := fun e => hb3 ⟨by rw [e, h4]; omega, by rw [e]; exact h7⟩
    exact (gs_R hbd).tr (gs_N hb2)
theorem LF.tr {G G1 G2 : PG} {a : Nat} (h : LF G G1 a) (h2 : LF G1 G2 a) : LF G G2 a := fun b hb1 hb2 hb3 => by
  have q := h b hb1 hb2 hb3
  exact q.tr (h2 b (by rw [q.1]; exact hb1) hb2 (by rw [q.1, q.2.1]; exact hb3))
theorem d_Arrays_copyOf_1_0 : decode b_Arrays_copyOf_1 0 = .ok (.aload_n 2, 1) := by decide +kernel
theorem d_Arrays_copyOf_1_1 : decode b_Arrays_copyOf_1 1 = .ok (.ldc 110, 2) := by decide +kernel
theorem d_Arrays_copyOf_1_3 : decode b_Arrays_copyOf_1 3 = .ok (.if_acmp .ne 10, 3) := by decide +kernel
theorem d_Arrays_copyOf_1_6 : decode b_Arrays_copyOf_1 6 = .ok (.iload_n 1, 1) := by decide +kernel
theorem d_Arrays_copyOf_1_7 : decode b_Arrays_copyOf_1 7 = .ok (.anewarray 2, 3) := by decide +kernel
theorem d_Arrays_copyOf_1_10 : decode b_Arrays_copyOf_1 10 = .ok (.goto 14, 3) := by decide +kernel
theorem d_Arrays_copyOf_1_13 : decode b_Arrays_copyOf_1 13 = .ok (.aload_n 2, 1) := by decide +kernel
theorem d_Arrays_copyOf_1_14 : decode b_Arrays_copyOf_1 14 = .ok (.invokevirtual 90, 3) := by decide +kernel
theorem d_Arrays_copyOf_1_17 : decode b_Arrays_copyOf_1 17 = .ok (.iload_n 1, 1) := by decide +kernel
theorem d_Arrays_copyOf_1_18 : decode b_Arrays_copyOf_1 18 = .ok (.invokestatic 95, 3) := by decide +kernel
theorem d_Arrays_copyOf_1_21 : decode b_Arrays_copyOf_1 21 = .ok (.checkcast 110, 3) := by decide +kernel
theorem d_Arrays_copyOf_1_24 : decode b_Arrays_copyOf_1 24 = .ok (.astore_n 3, 1) := by decide +kernel
theorem d_Arrays_copyOf_1_25 : decode b_Arrays_copyOf_1 25 = .ok (.aload_n 0, 1) := by decide +kernel
theorem d_Arrays_copyOf_1_26 : decode b_Arrays_copyOf_1 26 = .ok (.iconst 0, 1) := by decide +kernel
theorem d_Arrays_copyOf_1_27 : decode b_Arrays_copyOf_1 27 = .ok (.aload_n 3, 1) := by decide +kernel
theorem d_Arrays_copyOf_1_28 : decode b_Arrays_copyOf_1 28 = .ok (.iconst 0, 1) := by decide +kernel
theorem d_Arrays_copyOf_1_29 : decode b_Arrays_copyOf_1 29 = .ok (.aload_n 0, 1) := by decide +kernel
theorem d_Arrays_copyOf_1_30 : decode b_Arrays_copyOf_1 30 = .ok (.arraylength, 1) := by decide +kernel
theorem d_Arrays_copyOf_1_31 : decode b_Arrays_copyOf_1 31 = .ok (.iload_n 1, 1) := by decide +kernel
theorem d_Arrays_copyOf_1_32 : decode b_Arrays_copyOf_1 32 = .ok (.invokestatic 304, 3) := by decide +kernel
theorem d_Arrays_copyOf_1_35 : decode b_Arrays_copyOf_1 35 = .ok (.invokestatic 150, 3) := by decide +kernel
theorem d_Arrays_copyOf_1_38 : decode b_Arrays_copyOf_1 38 = .ok (.aload_n 3, 1) := by decide +kernel
theorem d_Arrays_copyOf_1_39 : decode b_Arrays_copyOf_1 39 = .ok (.areturn, 1) := by decide +kernel
set_option maxHeartbeats 4000000 in
set_option maxRecDepth 100000 in
/-- copyOf(a, k, c) -/
theorem p_Arrays_copyOf_1 (l : Launch) (dC : Nat → ClassId) (dI : Nat → Nat → Nat) (cB cI cL cZ cC cO : ClassId) {L : List Nat} {G : PG} (d n k mi : Nat) (t0 sz : Nat) (hL : gL L G) (hd : G.1 d = n + 8) (hn : n ≤ 600) (hk : k ≤ 600) (hel : ∀ i, i < n → ∀ y, G.2.2.2.2.2 d i = some y → 0 < G.1 y ∧ G.1 y < 7) : Met l y_Arrays_copyOf_1 w_Arrays_copyOf_1 ({ frames := 1, cells := 1, slots := 600, locals := 60 }) (va_Pc [.ref d, .int (nI k), .ref mi] (fun U => wB2 (dC, dI) cl [(cB, .byte), (cI, .int), (cL, .long), (cZ, .boolean), (cC, .char), (cO, .object "java/lang/Object")] sz t0 ([] ++ va_pl L (gE cO G)) U ∧ va_Mi "[Ljava/lang/Object;" mi U)) (va_Qq (fun (r : Option Nat) (u : Nat) => r = some u ∧ u ∉ L) (fun u t => wA (dC, dI) cl [(cB, .byte), (cI, .int), (cL, .long), (cZ, .boolean), (cC, .char), (cO, .object "java/lang/Object")] (va_A ([] ++ va_pl L (gE cO G)) sz) ([] ++ va_pl (L ++ [u]) (gE cO (gW (g0 G u (k + 8)) u (va_cpy ((g0 G u (k + 8)).2.2.2.2.2 d) ((g0 G u (k + 8)).2.2.2.2.2 u) 0 0 (min n k))))) t) (va_A ([] ++ va_pl L (gE cO G)) sz)) 1 600 (va_A ([] ++ va_pl L (gE cO G)) sz) := by
  refine Met.ofW (cc := b_Arrays_copyOf_1) (maxL := 4) (ret := (some (ClassFile.FieldType.array (ClassFile.FieldType.object "java/lang/Object")))) (by decide) rfl ?_
  intro p e s m args below meth c s₁ B hml hv
  obtain ⟨rfl, ⟨⟨hsz, hP, hK, hD0, hF⟩, hE⟩, hM⟩ := hv
  have hx := B.exec
  have hb := B.bytes
  have hr := B.returns
  have hts := atoms_spec (ws := w_Arrays_copyOf_1) B.pre
  have hts : ∀ w ∈ tb, w.before _ s = true := fun w h => hts w (List.mem_cons_of_mem _ h)
  have hown : s.vm.findClass "java/util/Arrays" = some m.cls := findClass_of_methodNamed B.named
  have hlocks := B.notSynchronized
  subst hsz
  have hD := hD0.self (sz := s.heap.size)
  generalize hAe : va_A ([] ++ va_pl L (gE cO G)) s.heap.size = A at hD hF hE ⊢
  have hA : ∀ q : Nat, s.heap.size ≤ q → A q := fun q h => by rw [← hAe]; exact Or.inr h
  have hS : va_S A s.heap s.heap [] := va_S.rf
  have hP : va_P (dC, dI) cl ([] ++ va_pl L (gE cO G)) s.heap := hP
  have hl := lv_entry ([.ref d, .int (nI k), .ref mi]) (n := 4) (Nat.le_of_ble_eq_true rfl)
  rw [lg_entry_eq]
  generalize (lg_sl ([.ref d, .int (nI k), .ref mi]) ++ List.replicate (4 - (lg_sl ([.ref d, .int (nI k), .ref mi])).length) Slot.unset).toArray = ls at hl ⊢
  have hl : lv_has ls 4 [(0, .ref d), (1, .int (nI k)), (2, .ref mi)] := hl
  refine lv_aload_n hx hb d_Arrays_copyOf_1_0 rfl (lv_at hl 2 rfl) ?_
  refine va_ldcM hx hb hown (hts _ k_304) hM d_Arrays_copyOf_1_1 ?_
  refine lv_acmp_ne (rx := some mi) (ry := some mi) (tgt := 13) hx hb d_Arrays_copyOf_1_3 (by decide) (fun c_1 => ?_) (fun c_1 => ?_)
  · exact absurd rfl c_1
  · refine lv_iload_n hx hb d_Arrays_copyOf_1_6 rfl (lv_at hl 1 rfl) ?_
    refine pq_newq (n := k) (fn := fun q9 => gE cO (g0 G q9 (k + 8))) hx hb hown (hts _ k_306) hF.2.2.2.1 hK hP hD hS hA (t0 := 5) rfl (by omega) (Nat.le_of_ble_eq_true rfl) (show 0 + k ≤ 600 from by omega) (fun q9 => nE_8 (G := G) q9 (k)) d_Arrays_copyOf_1_7 (fun q_2 H nq_2 hP hD hS => ?_)
    have kf_3 : (g0 G q_2 (k + 8)).1 d = n + 8 := (g0_k hL hd (by omega) nq_2)
    have ne_4 : d ≠ q_2 := g0_ne hL hd (by omega) nq_2
    have hL0 := hL
    have hz9 : G.1 q_2 = 0 := g0_n hL nq_2
    replace hL := gL_new (a := q_2) (n := (k + 8)) hL
    have hP : va_P (dC, dI) cl ([] ++ va_pl (L ++ [q_2]) (gE cO (g0 G q_2 (k + 8)))) H := hP
    have hD : va_D A ([] ++ va_pl (L ++ [q_2]) (gE cO (g0 G q_2 (k + 8)))) := hD
    refine lv_goto (tgt := 24) hx hb d_Arrays_copyOf_1_10 (by decide) ?_
    refine W.widen (k := 1) (n := 600) (by omega) (by omega) ?_
    refine lv_astore_n (lv' := [(3, .ref q_2), (0, .ref d), (1, .int (nI k)), (2, .ref mi)]) hx hb d_Arrays_copyOf_1_24 rfl hl (by decide) rfl (fun ls hl => ?_)
    refine lv_aload_n hx hb d_Arrays_copyOf_1_25 rfl (lv_at hl 1 rfl) ?_
    refine lv_iconst (v := nI 0) hx hb d_Arrays_copyOf_1_26 (by decide) ?_
    refine lv_aload_n hx hb d_Arrays_copyOf_1_27 rfl (lv_at hl 0 rfl) ?_
    refine lv_iconst (v := nI 0) hx hb d_Arrays_copyOf_1_28 (by decide) ?_
    refine lv_aload_n hx hb d_Arrays_copyOf_1_29 rfl (lv_at hl 1 rfl) ?_
    refine pq_alen (n := n) hx hb hK hP (gL_m hL kf_3 (by omega)) (gE_8 (G := (g0 G q_2 (k + 8))) kf_3) 5 rfl d_Arrays_copyOf_1_30 ?_
    refine lv_iload_n hx hb d_Arrays_copyOf_1_31 rfl (lv_at hl 2 rfl) ?_
    refine va_mmin hx hb (by rw [hml]; exact hl.1.symm) hown (hts _ k_307) (hts _ k_308) (hts _ k_13) (hts _ k_309) (Nat.le_of_ble_eq_true rfl) (Nat.le_of_ble_eq_true rfl) (Nat.le_of_ble_eq_true rfl) (Nat.le_of_ble_eq_true rfl) d_Arrays_copyOf_1_32 ?_
    rw [show (if nI k < nI n then nI k else nI n) = nI (min n k) from nI_min (by omega) (by omega)]
    have hel2 := el_0 (m := k + 8) hel ne_4 hz9 (k := min n k) (by omega)
    refine pq_copy hx hb (by rw [hml]; exact hl.1.symm) hown (hts _ k_310) hE.2.2.2.2.use (hts _ k_311) (hts _ k_15) hK hP hD hS (gL_m hL kf_3 (by omega)) (gL_m hL (g0_q G q_2 (k + 8)) (by omega)) (gE_8 (G := (g0 G q_2 (k + 8))) kf_3) (gE_8 (G := (g0 G q_2 (k + 8))) (g0_q G q_2 (k + 8))) 5 rfl (by omega) (by omega) (by omega) (fun i9 h9 y9 e9 => pq_any hK hP hF hL (hel2 i9 h9 y9 e9)) (Nat.le_of_ble_eq_true rfl) (Nat.le_of_ble_eq_true rfl) (uE_8w (G := (g0 G q_2 (k + 8))) (g0_q G q_2 (k + 8))) d_Arrays_copyOf_1_35 (fun H locs hP hD hS => ?_)
    have hP : va_P (dC, dI) cl ([] ++ va_pl (L ++ [q_2]) (gE cO (gW (g0 G q_2 (k + 8)) q_2 (va_cpy ((g0 G q_2 (k + 8)).2.2.2.2.2 d) ((g0 G q_2 (k + 8)).2.2.2.2.2 q_2) 0 0 (min n k))))) H := hP
    have hD : va_D A ([] ++ va_pl (L ++ [q_2]) (gE cO (gW (g0 G q_2 (k + 8)) q_2 (va_cpy ((g0 G q_2 (k + 8)).2.2.2.2.2 d) ((g0 G q_2 (k + 8)).2.2.2.2.2 q_2) 0 0 (min n k))))) := hD
    refine lv_aload_n hx hb d_Arrays_copyOf_1_38 rfl (lv_at hl 0 rfl) ?_
    exact wr_a (r := some q_2) hx hb hr ⟨_, rfl⟩ hlocks q_2 ⟨rfl, nq_2⟩ hK hP hD hS d_Arrays_copyOf_1_39
theorem d_Arrays_copyOf_0_0 : decode b_Arrays_copyOf_0 0 = .ok (.aload_n 0, 1) := by decide +kernel
theorem d_Arrays_copyOf_0_1 : decode b_Arrays_copyOf_0 1 = .ok (.iload_n 1, 1) := by decide +kernel
theorem d_Arrays_copyOf_0_2 : decode b_Arrays_copyOf_0 2 = .ok (.aload_n 0, 1) := by decide +kernel
theorem d_Arrays_copyOf_0_3 : decode b_Arrays_copyOf_0 3 = .ok (.invokevirtual 86, 3) := by decide +kernel
theorem d_Arrays_copyOf_0_6 : decode b_Arrays_copyOf_0 6 = .ok (.invokestatic 300, 3) := by decide +kernel
theorem d_Arrays_copyOf_0_9 : decode b_Arrays_copyOf_0 9 = .ok (.areturn, 1) := by decide +kernel
set_option maxHeartbeats 4000000 in
set_option maxRecDepth 100000 in
/-- copyOf(a, k) -/
theorem p_Arrays_copyOf_0 (l : Launch) (dC : Nat → ClassId) (dI : Nat → Nat → Nat) (cB cI cL cZ cC cO : ClassId) {L : List Nat} {G : PG} (d n k : Nat) (t0 sz : Nat) (hL : gL L G) (hd : G.1 d = n + 8) (hn : n ≤ 600) (hk : k ≤ 600) (hel : ∀ i, i < n → ∀ y, G.2.2.2.2.2 d i = some y → 0 < G.1 y ∧ G.1 y < 7) : Met l y_Arrays_copyOf_0 w_Arrays_copyOf_0 ({ frames := 2, cells := 1, slots := 600, locals := 120 }) (va_Pc [.ref d, .int (nI k)] (wB2 (dC, dI) cl [(cB, .byte), (cI, .int), (cL, .long), (cZ, .boolean), (cC, .char), (cO, .object "java/lang/Object")] sz t0 ([] ++ va_pl L (gE cO G)))) (va_Qq (fun (r : Option Nat) (u : Nat) => r = some u ∧ u ∉ L) (fun u t => wA (dC, dI) cl [(cB, .byte), (cI, .int), (cL, .long), (cZ, .boolean), (cC, .char), (cO, .object "java/lang/Object")] (va_A ([] ++ va_pl L (gE cO G)) sz) ([] ++ va_pl (L ++ [u]) (gE cO (gW (g0 G u (k + 8)) u (va_cpy ((g0 G u (k + 8)).2.2.2.2.2 d) ((g0 G u (k + 8)).2.2.2.2.2 u) 0 0 (min n k))))) t) (va_A ([] ++ va_pl L (gE cO G)) sz)) 1 600 (va_A ([] ++ va_pl L (gE cO G)) sz) := by
  refine Met.ofW (cc := b_Arrays_copyOf_0) (maxL := 2) (ret := (some (ClassFile.FieldType.array (ClassFile.FieldType.object "java/lang/Object")))) (by decide) rfl ?_
  intro p e s m args below meth c s₁ B hml hv
  obtain ⟨rfl, ⟨hsz, hP, hK, hD0, hF⟩, hE⟩ := hv
  have hx := B.exec
  have hb := B.bytes
  have hr := B.returns
  have hts := atoms_spec (ws := w_Arrays_copyOf_0) B.pre
  have hts : ∀ w ∈ tb, w.before _ s = true := fun w h => hts w (List.mem_cons_of_mem _ h)
  have hown : s.vm.findClass "java/util/Arrays" = some m.cls := findClass_of_methodNamed B.named
  have hlocks := B.notSynchronized
  subst hsz
  have hD := hD0.self (sz := s.heap.size)
  generalize hAe : va_A ([] ++ va_pl L (gE cO G)) s.heap.size = A at hD hF hE ⊢
  have hA : ∀ q : Nat, s.heap.size ≤ q → A q := fun q h => by rw [← hAe]; exact Or.inr h
  have hS : va_S A s.heap s.heap [] := va_S.rf
  have hP : va_P (dC, dI) cl ([] ++ va_pl L (gE cO G)) s.heap := hP
  have hl := lv_entry ([.ref d, .int (nI k)]) (n := 2) (Nat.le_of_ble_eq_true rfl)
  rw [lg_entry_eq]
  generalize (lg_sl ([.ref d, .int (nI k)]) ++ List.replicate (2 - (lg_sl ([.ref d, .int (nI k)])).length) Slot.unset).toArray = ls at hl ⊢
  have hl : lv_has ls 2 [(0, .ref d), (1, .int (nI k))] := hl
  obtain ⟨mi, hM⟩ := hF.2.2.1
  refine lv_aload_n hx hb d_Arrays_copyOf_0_0 rfl (lv_at hl 0 rfl) ?_
  refine lv_iload_n hx hb d_Arrays_copyOf_0_1 rfl (lv_at hl 1 rfl) ?_
  refine lv_aload_n hx hb d_Arrays_copyOf_0_2 rfl (lv_at hl 0 rfl) ?_
  refine va_getC (C := "[Ljava/lang/Object;") hx hb (by rw [hml]; exact hl.1.symm) hown (hts _ k_283) hE.2.2.1.use (hts _ k_1361) (hts _ k_284) hE.2.2.2.1.use hM (pq_arr hK hP (gL_m hL hd (by omega)) (gE_8 (G := G) hd) 5 rfl) (Nat.le_of_ble_eq_true rfl) (Nat.le_of_ble_eq_true rfl) d_Arrays_copyOf_0_3 ?_
  refine wd_q (cx := []) (wr := []) (pl := va_pl L (gE cO G)) (va_runS (As := [.ref d, .int (nI k), .ref mi]) (rest := []) ⟨hx, hb, hml, hown, hts⟩ (p_Arrays_copyOf_1 l dC dI cB cI cL cZ cC cO d n k mi t0 _ hL hd hn hk hel) (va_cwS 3 hts (good_S k_301 k_302 k_14 k_303) rfl rfl rfl (by decide +kernel) ⟨Nat.le_of_ble_eq_true rfl, Nat.le_of_ble_eq_true rfl⟩) (wd_preS3 hK hP hD hS hA hF hE [] (by decide) rfl hM) rfl rfl hl.1 rfl (lv_room (Nat.le_of_ble_eq_true rfl)) d_Arrays_copyOf_0_6 ⟨Nat.le_of_ble_eq_true rfl, Nat.le_of_ble_eq_true rfl⟩) hP hD hS hA [] [] rfl rfl (by decide) (by decide) (fun r_2 u H locs w_1 hP hD hS => ?_)
  have hP : va_P (dC, dI) cl ([] ++ va_pl (L ++ [u]) (gE cO (gW (g0 G u (k + 8)) u (va_cpy ((g0 G u (k + 8)).2.2.2.2.2 d) ((g0 G u (k + 8)).2.2.2.2.2 u) 0 0 (min n k))))) H := hP
  have hD : va_D A ([] ++ va_pl (L ++ [u]) (gE cO (gW (g0 G u (k + 8)) u (va_cpy ((g0 G u (k + 8)).2.2.2.2.2 d) ((g0 G u (k + 8)).2.2.2.2.2 u) 0 0 (min n k))))) := hD
  obtain ⟨r_2e, hu⟩ := w_1
  subst r_2e
  exact wr_a (r := some u) hx hb hr ⟨_, rfl⟩ hlocks u ⟨rfl, hu⟩ hK hP hD hS d_Arrays_copyOf_0_9
theorem d_List_grow_1_0 : decode b_List_grow_1 0 = .ok (.aload_n 0, 1) := by decide +kernel
theorem d_List_grow_1_1 : decode b_List_grow_1 1 = .ok (.getfield 9, 3) := by decide +kernel
theorem d_List_grow_1_4 : decode b_List_grow_1 4 = .ok (.arraylength, 1) := by decide +kernel
theorem d_List_grow_1_5 : decode b_List_grow_1 5 = .ok (.istore_n 2, 1) := by decide +kernel
theorem d_List_grow_1_6 : decode b_List_grow_1 6 = .ok (.iload_n 2, 1) := by decide +kernel
theorem d_List_grow_1_7 : decode b_List_grow_1 7 = .ok (.ifCond .gt 13, 3) := by decide +kernel
theorem d_List_grow_1_10 : decode b_List_grow_1 10 = .ok (.aload_n 0, 1) := by decide +kernel
theorem d_List_grow_1_11 : decode b_List_grow_1 11 = .ok (.getfield 9, 3) := by decide +kernel
theorem d_List_grow_1_14 : decode b_List_grow_1 14 = .ok (.getstatic 39, 3) := by decide +kernel
theorem d_List_grow_1_17 : decode b_List_grow_1 17 = .ok (.if_acmp .eq 28, 3) := by decide +kernel
theorem d_List_grow_1_20 : decode b_List_grow_1 20 = .ok (.iload_n 2, 1) := by decide +kernel
theorem d_List_grow_1_21 : decode b_List_grow_1 21 = .ok (.iload_n 1, 1) := by decide +kernel
theorem d_List_grow_1_22 : decode b_List_grow_1 22 = .ok (.iload_n 2, 1) := by decide +kernel
theorem d_List_grow_1_23 : decode b_List_grow_1 23 = .ok (.isub, 1) := by decide +kernel
theorem d_List_grow_1_24 : decode b_List_grow_1 24 = .ok (.iload_n 2, 1) := by decide +kernel
theorem d_List_grow_1_25 : decode b_List_grow_1 25 = .ok (.iconst 1, 1) := by decide +kernel
theorem d_List_grow_1_26 : decode b_List_grow_1 26 = .ok (.ishr, 1) := by decide +kernel
theorem d_List_grow_1_27 : decode b_List_grow_1 27 = .ok (.invokestatic 73, 3) := by decide +kernel
theorem d_List_grow_1_30 : decode b_List_grow_1 30 = .ok (.istore_n 3, 1) := by decide +kernel
theorem d_List_grow_1_31 : decode b_List_grow_1 31 = .ok (.aload_n 0, 1) := by decide +kernel
theorem d_List_grow_1_32 : decode b_List_grow_1 32 = .ok (.aload_n 0, 1) := by decide +kernel
theorem d_List_grow_1_33 : decode b_List_grow_1 33 = .ok (.getfield 9, 3) := by decide +kernel
theorem d_List_grow_1_36 : decode b_List_grow_1 36 = .ok (.iload_n 3, 1) := by decide +kernel
theorem d_List_grow_1_37 : decode b_List_grow_1 37 = .ok (.invokestatic 66, 3) := by decide +kernel
theorem d_List_grow_1_40 : decode b_List_grow_1 40 = .ok (.dup_x1, 1) := by decide +kernel
theorem d_List_grow_1_41 : decode b_List_grow_1 41 = .ok (.putfield 9, 3) := by decide +kernel
theorem d_List_grow_1_44 : decode b_List_grow_1 44 = .ok (.areturn, 1) := by decide +kernel
theorem d_List_grow_1_45 : decode b_List_grow_1 45 = .ok (.aload_n 0, 1) := by decide +kernel
theorem d_List_grow_1_46 : decode b_List_grow_1 46 = .ok (.bipush 10, 2) := by decide +kernel
theorem d_List_grow_1_48 : decode b_List_grow_1 48 = .ok (.iload_n 1, 1) := by decide +kernel
theorem d_List_grow_1_49 : decode b_List_grow_1 49 = .ok (.invokestatic 79, 3) := by decide +kernel
theorem d_List_grow_1_52 : decode b_List_grow_1 52 = .ok (.anewarray 7, 3) := by decide +kernel
theorem d_List_grow_1_55 : decode b_List_grow_1 55 = .ok (.dup_x1, 1) := by decide +kernel
theorem d_List_grow_1_56 : decode b_List_grow_1 56 = .ok (.putfield 9, 3) := by decide +kernel
theorem d_List_grow_1_59 : decode b_List_grow_1 59 = .ok (.areturn, 1) := by decide +kernel
set_option maxHeartbeats 4000000 in
set_option maxRecDepth 100000 in
/-- grow(n) of a new list -/
theorem p_List_grow_1E (l : Launch) (dC : Nat → ClassId) (dI : Nat → Nat → Nat) (cB cI cL cZ cC cO : ClassId) {L : List Nat} {G : PG} (a mn : Nat) (xs : List Nat) (t0 sz : Nat) (hL : gL L G) (ha : G.1 a = 7) (hs : G.2.1 a 1 = 0) (h0 : G.2.2.2.2.2 a 0 = some t0) (hxs : xs = []) (hmn : mn ≤ 10) : Met l y_List_grow_1 w_List_grow_1 ({ frames := 3, cells := 1, slots := 600, locals := 180 }) (va_Pc [.ref a, .int (nI mn)] (wB2 (dC, dI) cl [(cB, .byte), (cI, .int), (cL, .long), (cZ, .boolean), (cC, .char), (cO, .object "java/lang/Object")] sz t0 ([] ++ va_pl L (gE cO G)))) (va_Qq (fun (r : Option Nat) (u : Nat × PG × Nat) => (r = some u.1 ∧ u.1 ∉ L ∧ LSd u.2.1 a xs u.1 u.2.2 ∧ xs.length < u.2.2 ∧ gL (L ++ [u.1]) u.2.1 ∧ LF G u.2.1 a)) (fun u t => wA (dC, dI) cl [(cB, .byte), (cI, .int), (cL, .long), (cZ, .boolean), (cC, .char), (cO, .object "java/lang/Object")] (va_A ([] ++ va_pl L (gE cO G)) sz) ([] ++ va_pl (L ++ [u.1]) (gE cO u.2.1)) t) (va_A ([] ++ va_pl L (gE cO G)) sz)) 1 600 (va_A ([] ++ va_pl L (gE cO G)) sz) := by
  refine Met.ofW (cc := b_List_grow_1) (maxL := 4) (ret := (some (ClassFile.FieldType.array (ClassFile.FieldType.object "java/lang/Object")))) (by decide) rfl ?_
  intro p e s m args below meth c s₁ B hml hv
  obtain ⟨rfl, ⟨hsz, hP, hK, hD0, hF⟩, hE⟩ := hv
  have hx := B.exec
  have hb := B.bytes
  have hr := B.returns
  have hts := atoms_spec (ws := w_List_grow_1) B.pre
  have hts : ∀ w ∈ tb, w.before _ s = true := fun w h => hts w (List.mem_cons_of_mem _ h)
  have hown : s.vm.findClass R_List = some m.cls := findClass_of_methodNamed B.named
  have hlocks := B.notSynchronized
  subst hsz
  have hD := hD0.self (sz := s.heap.size)
  generalize hAe : va_A ([] ++ va_pl L (gE cO G)) s.heap.size = A at hD hF hE ⊢
  have hA : ∀ q : Nat, s.heap.size ≤ q → A q := fun q h => by rw [← hAe]; exact Or.inr h
  have hS : va_S A s.heap s.heap [] := va_S.rf
  have hP : va_P (dC, dI) cl ([] ++ va_pl L (gE cO G)) s.heap := hP
  have hl := lv_entry ([.ref a, .int (nI mn)]) (n := 4) (Nat.le_of_ble_eq_true rfl)
  rw [lg_entry_eq]
  generalize (lg_sl ([.ref a, .int (nI mn)]) ++ List.replicate (4 - (lg_sl ([.ref a, .int (nI mn)])).length) Slot.unset).toArray = ls at hl ⊢
  have hl : lv_has ls 4 [(0, .ref a), (1, .int (nI mn))] := hl
  subst hxs
  refine lv_aload_n hx hb d_List_grow_1_0 rfl (lv_at hl 0 rfl) ?_
  refine pq_get (D := (dC, dI)) (ci := 4) (v := .ref t0) (C := R_List) (T := F_List) (N := 3) hx hb hts i_List hown hK hP (gL_m hL ha (by decide)) (gE_7 (G := G) ha) rfl 0 (by decide) (hts _ k_103) (fun _ h9 => h9) (congrArg (fun z9 => some (va_rf z9)) h0) d_List_grow_1_1 ?_
  refine va_tlen (v := nI 0) hx hb hE.2.1 hS rfl d_List_grow_1_4 ?_
  refine lv_istore_n (lv' := [(2, .int (nI 0)), (0, .ref a), (1, .int (nI mn))]) hx hb d_List_grow_1_5 rfl hl (by decide) rfl (fun ls hl => ?_)
  refine lv_iload_n hx hb d_List_grow_1_6 rfl (lv_at hl 0 rfl) ?_
  refine nv_if_gt (tgt := 20) hx hb (by omega) d_List_grow_1_7 (by decide) (fun c_1 => ?_) (fun c_1 => ?_)
  · first | omega | exact absurd rfl c_1
  · refine lv_aload_n hx hb d_List_grow_1_10 rfl (lv_at hl 1 rfl) ?_
    refine pq_get (D := (dC, dI)) (ci := 4) (v := .ref t0) (C := R_List) (T := F_List) (N := 3) hx hb hts i_List hown hK hP (gL_m hL ha (by decide)) (gE_7 (G := G) ha) rfl 0 (by decide) (hts _ k_103) (fun _ h9 => h9) (congrArg (fun z9 => some (va_rf z9)) h0) d_List_grow_1_11 ?_
    refine va_gets hx hb hE.1 hS hown (hts _ k_101) (fun _ h9 => h9) d_List_grow_1_14 ?_
    refine lv_acmp_eq (rx := some t0) (ry := some t0) (tgt := 45) hx hb d_List_grow_1_17 (by decide) (fun c_2 => ?_) (fun c_2 => ?_)
    · refine lv_aload_n hx hb d_List_grow_1_45 rfl (lv_at hl 1 rfl) ?_
      refine lv_bipush (v := nI 10) hx hb d_List_grow_1_46 (by decide) ?_
      refine lv_iload_n hx hb d_List_grow_1_48 rfl (lv_at hl 2 rfl) ?_
      refine va_mmax hx hb (by rw [hml]; exact hl.1.symm) hown (hts _ k_313) (hts _ k_274) (hts _ k_13) (hts _ k_275) (Nat.le_of_ble_eq_true rfl) (Nat.le_of_ble_eq_true rfl) (Nat.le_of_ble_eq_true rfl) (Nat.le_of_ble_eq_true rfl) d_List_grow_1_49 ?_
      rw [show (if nI 10 < nI mn then nI mn else nI 10) = nI (max 10 mn) from nI_max (by omega) (by omega)]
      refine pq_newq (n := max 10 mn) (fn := fun q9 => gE cO (g0 G q9 (max 10 mn + 8))) hx hb hown (hts _ k_314) hF.2.2.2.1 hK hP hD hS hA (t0 := 5) rfl (by omega) (Nat.le_of_ble_eq_true rfl) (show 0 + max 10 mn ≤ 600 from by omega) (fun q9 => nE_8 (G := G) q9 (max 10 mn)) d_List_grow_1_52 (fun q_3 H nq_3 hP hD hS => ?_)
      have kf_4 : (g0 G q_3 (max 10 mn + 8)).1 a = 7 := (g0_k hL ha (by decide) nq_3)
      have ne_5 : a ≠ q_3 := g0_ne hL ha (by decide) nq_3
      have fa_6 : (g0 G q_3 (max 10 mn + 8)).2.2.2.2.2 a 0 = some t0 := (congrFun ((gs_0 ne_5).2.2.2.2.2) 0).trans h0
      have hL0 := hL
      have hz9 : G.1 q_3 = 0 := g0_n hL nq_3
      replace hL := gL_new (a := q_3) (n := (max 10 mn + 8)) hL
      have hP : va_P (dC, dI) cl ([] ++ va_pl (L ++ [q_3]) (gE cO (g0 G q_3 (max 10 mn + 8)))) H := hP
      have hD : va_D A ([] ++ va_pl (L ++ [q_3]) (gE cO (g0 G q_3 (max 10 mn + 8)))) := hD
      refine lv_dup_x1 hx hb d_List_grow_1_55 rfl rfl ?_
      refine pq_put (D := (dC, dI)) (ci := 4) (v := .ref q_3) (ty := .array (.object "java/lang/Object")) (C := R_List) (T := F_List) (N := 3) hx hb hts i_List t_List t_List_ok n_List hown hK hP hD hS (gL_m hL kf_4 (by decide)) (gE_7 (G := (g0 G q_3 (max 10 mn + 8))) kf_4) rfl 0 (by decide) (hts _ k_103) (fun _ h9 => h9) rfl (by decide +kernel) rfl rfl (Nat.le_of_ble_eq_true rfl) (uE_7_0 (G := (g0 G q_3 (max 10 mn + 8))) (v := some q_3) kf_4) d_List_grow_1_56 (fun H locs hP hD hS => ?_)
      have hP : va_P (dC, dI) cl ([] ++ va_pl (L ++ [q_3]) (gE cO (gR (g0 G q_3 (max 10 mn + 8)) a 0 (some q_3)))) H := hP
      have hD : va_D A ([] ++ va_pl (L ++ [q_3]) (gE cO (gR (g0 G q_3 (max 10 mn + 8)) a 0 (some q_3)))) := hD
      have hP : va_P (dC, dI) cl ([] ++ va_pl (L ++ [q_3]) (gE cO (gN (gR (g0 G q_3 (max 10 mn + 8)) a 0 (some q_3)) q_3 9 a))) H := by rw [gE_gh]; exact hP
      have hD : va_D A ([] ++ va_pl (L ++ [q_3]) (gE cO (gN (gR (g0 G q_3 (max 10 mn + 8)) a 0 (some q_3)) q_3 9 a))) := by rw [gE_gh]; exact hD
      obtain ⟨z1, z2, z3⟩ := LSd_grn (k := max 10 mn) ha hs hL0 nq_3 (by omega) (by omega)
      refine W.widen (k := 1) (n := 600) (by omega) (by omega) ?_
      exact wr_a (r := some q_3) hx hb hr ⟨_, rfl⟩ hlocks (q_3, gN (gR (g0 G q_3 (max 10 mn + 8)) a 0 (some q_3)) q_3 9 a, max 10 mn) ⟨rfl, nq_3, z1, (by show 0 < max 10 mn; omega), z2, z3⟩ hK hP hD hS d_List_grow_1_59
    · first | omega | exact absurd rfl c_2
set_option maxHeartbeats 4000000 in
set_option maxRecDepth 100000 in
/-- grow(n) of a full list -/
theorem p_List_grow_1A (l : Launch) (dC : Nat → ClassId) (dI : Nat → Nat → Nat) (cB cI cL cZ cC cO : ClassId) {L : List Nat} {G : PG} (a mn d n : Nat) (xs : List Nat) (t0 sz : Nat) (hL : gL L G) (h : LSd G a xs d n) (hfull : xs.length = n) (hn1 : 1 ≤ n) (hn2 : n ≤ 400) (hmn : mn = n + 1) : Met l y_List_grow_1 w_List_grow_1 ({ frames := 3, cells := 1, slots := 600, locals := 180 }) (va_Pc [.ref a, .int (nI mn)] (wB2 (dC, dI) cl [(cB, .byte), (cI, .int), (cL, .long), (cZ, .boolean), (cC, .char), (cO, .object "java/lang/Object")] sz t0 ([] ++ va_pl L (gE cO G)))) (va_Qq (fun (r : Option Nat) (u : Nat × PG × Nat) => (r = some u.1 ∧ u.1 ∉ L ∧ LSd u.2.1 a xs u.1 u.2.2 ∧ xs.length < u.2.2 ∧ gL (L ++ [u.1]) u.2.1 ∧ LF G u.2.1 a)) (fun u t => wA (dC, dI) cl [(cB, .byte), (cI, .int), (cL, .long), (cZ, .boolean), (cC, .char), (cO, .object "java/lang/Object")] (va_A ([] ++ va_pl L (gE cO G)) sz) ([] ++ va_pl (L ++ [u.1]) (gE cO u.2.1)) t) (va_A ([] ++ va_pl L (gE cO G)) sz)) 1 600 (va_A ([] ++ va_pl L (gE cO G)) sz) := by
  refine Met.ofW (cc := b_List_grow_1) (maxL := 4) (ret := (some (ClassFile.FieldType.array (ClassFile.FieldType.object "java/lang/Object")))) (by decide) rfl ?_
  intro p e s m args below meth c s₁ B hml hv
  obtain ⟨rfl, ⟨hsz, hP, hK, hD0, hF⟩, hE⟩ := hv
  have hx := B.exec
  have hb := B.bytes
  have hr := B.returns
  have hts := atoms_spec (ws := w_List_grow_1) B.pre
  have hts : ∀ w ∈ tb, w.before _ s = true := fun w h => hts w (List.mem_cons_of_mem _ h)
  have hown : s.vm.findClass R_List = some m.cls := findClass_of_methodNamed B.named
  have hlocks := B.notSynchronized
  subst hsz
  have hD := hD0.self (sz := s.heap.size)
  generalize hAe : va_A ([] ++ va_pl L (gE cO G)) s.heap.size = A at hD hF hE ⊢
  have hA : ∀ q : Nat, s.heap.size ≤ q → A q := fun q h => by rw [← hAe]; exact Or.inr h
  have hS : va_S A s.heap s.heap [] := va_S.rf
  have hP : va_P (dC, dI) cl ([] ++ va_pl L (gE cO G)) s.heap := hP
  have hl := lv_entry ([.ref a, .int (nI mn)]) (n := 4) (Nat.le_of_ble_eq_true rfl)
  rw [lg_entry_eq]
  generalize (lg_sl ([.ref a, .int (nI mn)]) ++ List.replicate (4 - (lg_sl ([.ref a, .int (nI mn)])).length) Slot.unset).toArray = ls at hl ⊢
  have hl : lv_has ls 4 [(0, .ref a), (1, .int (nI mn))] := hl
  have ha := h.1
  have h0 := h.2.2.1
  have hd := h.2.2.2.1
  have hel : ∀ i, i < n → ∀ y, G.2.2.2.2.2 d i = some y → 0 < G.1 y ∧ G.1 y < 7 := fun i hi y hy => h.2.2.2.2.2.2.2.2 y (List.mem_of_getElem? (by rw [← h.2.2.2.2.2.2.2.1 i (by omega)]; exact hy))
  refine lv_aload_n hx hb d_List_grow_1_0 rfl (lv_at hl 0 rfl) ?_
  refine pq_get (D := (dC, dI)) (ci := 4) (v := .ref d) (C := R_List) (T := F_List) (N := 3) hx hb hts i_List hown hK hP (gL_m hL ha (by decide)) (gE_7 (G := G) ha) rfl 0 (by decide) (hts _ k_103) (fun _ h9 => h9) (congrArg (fun z9 => some (va_rf z9)) h0) d_List_grow_1_1 ?_
  refine pq_alen (n := n) hx hb hK hP (gL_m hL hd (by omega)) (gE_8 (G := G) hd) 5 rfl d_List_grow_1_4 ?_
  refine lv_istore_n (lv' := [(2, .int (nI n)), (0, .ref a), (1, .int (nI mn))]) hx hb d_List_grow_1_5 rfl hl (by decide) rfl (fun ls hl => ?_)
  refine lv_iload_n hx hb d_List_grow_1_6 rfl (lv_at hl 0 rfl) ?_
  refine nv_if_gt (tgt := 20) hx hb (by omega) d_List_grow_1_7 (by decide) (fun c_1 => ?_) (fun c_1 => ?_)
  · refine lv_iload_n hx hb d_List_grow_1_20 rfl (lv_at hl 0 rfl) ?_
    refine lv_iload_n hx hb d_List_grow_1_21 rfl (lv_at hl 2 rfl) ?_
    refine lv_iload_n hx hb d_List_grow_1_22 rfl (lv_at hl 0 rfl) ?_
    refine nv_isub hx hb (by omega) d_List_grow_1_23 ?_
    refine lv_iload_n hx hb d_List_grow_1_24 rfl (lv_at hl 0 rfl) ?_
    refine lv_iconst (v := nI 1) hx hb d_List_grow_1_25 (by decide) ?_
    refine lv_ishr hx hb d_List_grow_1_26 ?_
    rw [show nI n >>> (nI 1 &&& 31) = nI (n / 2) from ishr_1 n (by omega)]
    refine we_i (cx := []) (wr := []) (pl := va_pl L (gE cO G)) (va_runS (As := [.int (nI n), .int (nI (mn - n)), .int (nI (n / 2))]) (rest := []) ⟨hx, hb, hml, hown, hts⟩ (c_ArraysSupport_newLength l dC dI cB cI cL cZ cC cO n (mn - n) (n / 2) _ (by omega) (by omega) (by omega) (by omega)) (va_cwS 3 hts (good_S k_270 k_271 k_12 k_272) rfl rfl rfl (by decide +kernel) ⟨Nat.le_of_ble_eq_true rfl, Nat.le_of_ble_eq_true rfl⟩) (wc_preS hK hP hD hS hA hF [] (by decide) rfl) rfl rfl hl.1 rfl (lv_room (Nat.le_of_ble_eq_true rfl)) d_List_grow_1_27 ⟨Nat.le_of_ble_eq_true rfl, Nat.le_of_ble_eq_true rfl⟩) hP hD hS hA [] [] rfl rfl (by decide) (by decide) (fun r_3 _ H locs w_2 hP hD hS => ?_)
    have hP : va_P (dC, dI) cl ([] ++ va_pl L (gE cO G)) H := hP
    have hD : va_D A ([] ++ va_pl L (gE cO G)) := hD
    subst w_2
    refine lv_istore_n (lv' := [(3, .int (nI (n + max (mn - n) (n / 2)))), (2, .int (nI n)), (0, .ref a), (1, .int (nI mn))]) hx hb d_List_grow_1_30 rfl hl (by decide) rfl (fun ls hl => ?_)
    refine lv_aload_n hx hb d_List_grow_1_31 rfl (lv_at hl 2 rfl) ?_
    refine lv_aload_n hx hb d_List_grow_1_32 rfl (lv_at hl 2 rfl) ?_
    refine pq_get (D := (dC, dI)) (ci := 4) (v := .ref d) (C := R_List) (T := F_List) (N := 3) hx hb hts i_List hown hK hP (gL_m hL ha (by decide)) (gE_7 (G := G) ha) rfl 0 (by decide) (hts _ k_103) (fun _ h9 => h9) (congrArg (fun z9 => some (va_rf z9)) h0) d_List_grow_1_33 ?_
    refine lv_iload_n hx hb d_List_grow_1_36 rfl (lv_at hl 0 rfl) ?_
    refine wd_q (cx := []) (wr := []) (pl := va_pl L (gE cO G)) (va_runS (As := [.ref d, .int (nI (n + max (mn - n) (n / 2)))]) (rest := [.ref a]) ⟨hx, hb, hml, hown, hts⟩ (p_Arrays_copyOf_0 l dC dI cB cI cL cZ cC cO d n (n + max (mn - n) (n / 2)) t0 _ hL hd (by omega) (by omega) hel) (va_cwS 2 hts (good_S k_280 k_281 k_14 k_282) rfl rfl rfl (by decide +kernel) ⟨Nat.le_of_ble_eq_true rfl, Nat.le_of_ble_eq_true rfl⟩) (wd_preS hK hP hD hS hA hF hE [] (by decide) rfl) rfl rfl hl.1 rfl (lv_room (Nat.le_of_ble_eq_true rfl)) d_List_grow_1_37 ⟨Nat.le_of_ble_eq_true rfl, Nat.le_of_ble_eq_true rfl⟩) hP hD hS hA [] [] rfl rfl (by decide) (by decide) (fun r_5 u H locs w_4 hP hD hS => ?_)
    have hP : va_P (dC, dI) cl ([] ++ va_pl (L ++ [u]) (gE cO (gW (g0 G u (n + max (mn - n) (n / 2) + 8)) u (va_cpy ((g0 G u (n + max (mn - n) (n / 2) + 8)).2.2.2.2.2 d) ((g0 G u (n + max (mn - n) (n / 2) + 8)).2.2.2.2.2 u) 0 0 (min n (n + max (mn - n) (n / 2))))))) H := hP
    have hD : va_D A ([] ++ va_pl (L ++ [u]) (gE cO (gW (g0 G u (n + max (mn - n) (n / 2) + 8)) u (va_cpy ((g0 G u (n + max (mn - n) (n / 2) + 8)).2.2.2.2.2 d) ((g0 G u (n + max (mn - n) (n / 2) + 8)).2.2.2.2.2 u) 0 0 (min n (n + max (mn - n) (n / 2))))))) := hD
    obtain ⟨r_5e, hu⟩ := w_4
    subst r_5e
    have hau : a ≠ u := g0_ne hL ha (by decide) hu
    have ka : (g0 G u (n + max (mn - n) (n / 2) + 8)).1 a = 7 := g0_k hL ha (by decide) hu
    have hL0 := hL
    replace hL := gL_new (a := u) (n := n + max (mn - n) (n / 2) + 8) hL
    have hgr := LSd_grw (k := n + max (mn - n) (n / 2)) h hL0 hu (by omega) (by omega)
    refine lv_dup_x1 hx hb d_List_grow_1_40 rfl rfl ?_
    refine pq_put (D := (dC, dI)) (ci := 4) (v := .ref u) (ty := .array (.object "java/lang/Object")) (C := R_List) (T := F_List) (N := 3) hx hb hts i_List t_List t_List_ok n_List hown hK hP hD hS (gL_m hL ka (by decide)) (gE_7 (G := (gW (g0 G u (n + max (mn - n) (n / 2) + 8)) u (va_cpy ((g0 G u (n + max (mn - n) (n / 2) + 8)).2.2.2.2.2 d) ((g0 G u (n + max (mn - n) (n / 2) + 8)).2.2.2.2.2 u) 0 0 (min n (n + max (mn - n) (n / 2)))))) ka) rfl 0 (by decide) (hts _ k_103) (fun _ h9 => h9) rfl (by decide +kernel) rfl rfl (Nat.le_of_ble_eq_true rfl) (uE_7_0 (G := (gW (g0 G u (n + max (mn - n) (n / 2) + 8)) u (va_cpy ((g0 G u (n + max (mn - n) (n / 2) + 8)).2.2.2.2.2 d) ((g0 G u (n + max (mn - n) (n / 2) + 8)).2.2.2.2.2 u) 0 0 (min n (n + max (mn - n) (n / 2)))))) (v := some u) ka) d_List_grow_1_41 (fun H locs hP hD hS => ?_)
    have hP : va_P (dC, dI) cl ([] ++ va_pl (L ++ [u]) (gE cO (gR (gW (g0 G u (n + max (mn - n) (n / 2) + 8)) u (va_cpy ((g0 G u (n + max (mn - n) (n / 2) + 8)).2.2.2.2.2 d) ((g0 G u (n + max (mn - n) (n / 2) + 8)).2.2.2.2.2 u) 0 0 (min n (n + max (mn - n) (n / 2))))) a 0 (some u)))) H := hP
    have hD : va_D A ([] ++ va_pl (L ++ [u]) (gE cO (gR (gW (g0 G u (n + max (mn - n) (n / 2) + 8)) u (va_cpy ((g0 G u (n + max (mn - n) (n / 2) + 8)).2.2.2.2.2 d) ((g0 G u (n + max (mn - n) (n / 2) + 8)).2.2.2.2.2 u) 0 0 (min n (n + max (mn - n) (n / 2))))) a 0 (some u)))) := hD
    have hP : va_P (dC, dI) cl ([] ++ va_pl (L ++ [u]) (gE cO (gN (gR (gW (g0 G u (n + max (mn - n) (n / 2) + 8)) u (va_cpy ((g0 G u (n + max (mn - n) (n / 2) + 8)).2.2.2.2.2 d) ((g0 G u (n + max (mn - n) (n / 2) + 8)).2.2.2.2.2 u) 0 0 (min n (n + max (mn - n) (n / 2))))) a 0 (some u)) u 9 a))) H := by rw [gE_gh]; exact hP
    have hD : va_D A ([] ++ va_pl (L ++ [u]) (gE cO (gN (gR (gW (g0 G u (n + max (mn - n) (n / 2) + 8)) u (va_cpy ((g0 G u (n + max (mn - n) (n / 2) + 8)).2.2.2.2.2 d) ((g0 G u (n + max (mn - n) (n / 2) + 8)).2.2.2.2.2 u) 0 0 (min n (n + max (mn - n) (n / 2))))) a 0 (some u)) u 9 a))) := by rw [gE_gh]; exact hD
    obtain ⟨z1, z2, z3⟩ := hgr
    refine W.widen (k := 1) (n := 600) (by omega) (by omega) ?_
    exact wr_a (r := some u) hx hb hr ⟨_, rfl⟩ hlocks (u, gN (gR (gW (g0 G u (n + max (mn - n) (n / 2) + 8)) u (va_cpy ((g0 G u (n + max (mn - n) (n / 2) + 8)).2.2.2.2.2 d) ((g0 G u (n + max (mn - n) (n / 2) + 8)).2.2.2.2.2 u) 0 0 (min n (n + max (mn - n) (n / 2))))) a 0 (some u)) u 9 a, n + max (mn - n) (n / 2)) ⟨rfl, hu, z1, (by show xs.length < n + max (mn - n) (n / 2); omega), z2, z3⟩ hK hP hD hS d_List_grow_1_44
  · exfalso; omega
