/-- the list at a holds xs in the array at d, of n places; place 9 of an array's numbers, which no field shows, names its list -/
def LSd (G : PG) (a : Nat) (xs : List Nat) (d n : Nat) : Prop := G.1 a = 7 ∧ G.2.1 a 1 = xs.length ∧ G.2.2.2.2.2 a 0 = some d ∧ G.1 d = n + 8 ∧ xs.length ≤ n ∧ (1 ≤ n ∧ n ≤ 600) ∧ G.2.1 d 9 = a ∧ (∀ i, i < xs.length → G.2.2.2.2.2 d i = xs[i]?) ∧ ∀ x ∈ xs, 0 < G.1 x ∧ G.1 x < 7
def LSx (t0 : Nat) (G : PG) (a : Nat) (xs : List Nat) : Prop := (G.1 a = 7 ∧ G.2.1 a 1 = 0 ∧ G.2.2.2.2.2 a 0 = some t0 ∧ xs = []) ∨ ∃ d n, LSd G a xs d n
theorem LSx.k {t0 : Nat} {G : PG} {a : Nat} {xs : List Nat} (h : LSx t0 G a xs) : G.1 a = 7 ∧ G.2.1 a 1 = xs.length := by
  rcases h with ⟨h1, h2, _, h4⟩ | ⟨d, n, h⟩
  · exact ⟨h1, by rw [h2, h4]; rfl⟩
  · exact ⟨h.1, h.2.1⟩
/-- all but the list at a and its arrays is as before -/
def LF (G G' : PG) (a : Nat) : Prop := ∀ b, G.1 b ≠ 0 → b ≠ a → ¬ (8 ≤ G.1 b ∧ G.2.1 b 9 = a) → gs G G' b
theorem LSd.keep {G G' : PG} {a d n : Nat} {xs : List Nat} (h : LSd G a xs d n) (ha : gs G G' a) (hd : gs G G' d) (hx : ∀ x ∈ xs, gs G G' x) : LSd G' a xs d n := by
  obtain ⟨h1, h2, h3, h4, h5, h6, h7, h8, h9⟩ := h
  refine ⟨ha.1.trans h1, by rw [ha.2.1]; exact h2, by rw [ha.2.2.2.2.2]; exact h3, hd.1.trans h4, h5, h6, by rw [hd.2.1]; exact h7, fun i hi => by rw [hd.2.2.2.2.2]; exact h8 i hi, fun x hx2 => by rw [(hx x hx2).1]; exact h9 x hx2⟩
theorem d_Preconditions_checkIndex_0 : decode b_Preconditions_checkIndex 0 = .ok (.iload_n 0, 1) := by decide +kernel
theorem d_Preconditions_checkIndex_1 : decode b_Preconditions_checkIndex 1 = .ok (.ifCond .lt 8, 3) := by decide +kernel
theorem d_Preconditions_checkIndex_4 : decode b_Preconditions_checkIndex 4 = .ok (.iload_n 0, 1) := by decide +kernel
theorem d_Preconditions_checkIndex_5 : decode b_Preconditions_checkIndex 5 = .ok (.iload_n 1, 1) := by decide +kernel
theorem d_Preconditions_checkIndex_6 : decode b_Preconditions_checkIndex 6 = .ok (.if_icmp .lt 10, 3) := by decide +kernel
theorem d_Preconditions_checkIndex_9 : decode b_Preconditions_checkIndex 9 = .ok (.aload_n 2, 1) := by decide +kernel
theorem d_Preconditions_checkIndex_10 : decode b_Preconditions_checkIndex 10 = .ok (.iload_n 0, 1) := by decide +kernel
theorem d_Preconditions_checkIndex_11 : decode b_Preconditions_checkIndex 11 = .ok (.iload_n 1, 1) := by decide +kernel
theorem d_Preconditions_checkIndex_12 : decode b_Preconditions_checkIndex 12 = .ok (.invokestatic 95, 3) := by decide +kernel
theorem d_Preconditions_checkIndex_15 : decode b_Preconditions_checkIndex 15 = .ok (.athrow, 1) := by decide +kernel
theorem d_Preconditions_checkIndex_16 : decode b_Preconditions_checkIndex 16 = .ok (.iload_n 0, 1) := by decide +kernel
theorem d_Preconditions_checkIndex_17 : decode b_Preconditions_checkIndex 17 = .ok (.ireturn, 1) := by decide +kernel
set_option maxHeartbeats 4000000 in
set_option maxRecDepth 100000 in
/-- checkIndex(i, n, null) -/
theorem c_Preconditions_checkIndex (l : Launch) (dC : Nat → ClassId) (dI : Nat → Nat → Nat) (cB cI cL cZ cC cO : ClassId) (i n : Nat) (sz : Nat) (h : i < n) (hn : n < 2 ^ 31) : Met l y_Preconditions_checkIndex w_Preconditions_checkIndex ({ frames := 0, cells := 0, slots := 0, locals := 0 }) (va_Pc [.int (nI i), .int (nI n), .null] (wB (dC, dI) cl [(cB, .byte), (cI, .int), (cL, .long), (cZ, .boolean), (cC, .char), (cO, .object "java/lang/Object")] sz [])) (va_Qi (fun (r : Int32) (u : Unit) => r = nI i) (fun _ t => wA (dC, dI) cl [(cB, .byte), (cI, .int), (cL, .long), (cZ, .boolean), (cC, .char), (cO, .object "java/lang/Object")] (va_A [] sz) [] t) (va_A [] sz)) 0 0 (va_A [] sz) := by
  refine Met.ofW (cc := b_Preconditions_checkIndex) (maxL := 3) (ret := (some ClassFile.FieldType.int)) (by decide) rfl ?_
  intro p e s m args below meth c s₁ B hml hv
  obtain ⟨rfl, hsz, hP, hK, hD0, hF⟩ := hv
  have hx := B.exec
  have hb := B.bytes
  have hr := B.returns
  have hts := atoms_spec (ws := w_Preconditions_checkIndex) B.pre
  have hts : ∀ w ∈ tb, w.before _ s = true := fun w h => hts w (List.mem_cons_of_mem _ h)
  have hown : s.vm.findClass "jdk/internal/util/Preconditions" = some m.cls := findClass_of_methodNamed B.named
  have hlocks := B.notSynchronized
  subst hsz
  have hD := hD0.self (sz := s.heap.size)
  generalize hAe : va_A [] s.heap.size = A at hD hF ⊢
  have hA : ∀ q : Nat, s.heap.size ≤ q → A q := fun q h => by rw [← hAe]; exact Or.inr h
  have hS : va_S A s.heap s.heap [] := va_S.rf
  have hP : va_P (dC, dI) cl [] s.heap := hP
  have hl := lv_entry ([.int (nI i), .int (nI n), .null]) (n := 3) (Nat.le_of_ble_eq_true rfl)
  rw [lg_entry_eq]
  generalize (lg_sl ([.int (nI i), .int (nI n), .null]) ++ List.replicate (3 - (lg_sl ([.int (nI i), .int (nI n), .null])).length) Slot.unset).toArray = ls at hl ⊢
  have hl : lv_has ls 3 [(0, .int (nI i)), (1, .int (nI n)), (2, .null)] := hl
  refine lv_iload_n hx hb d_Preconditions_checkIndex_0 rfl (lv_at hl 0 rfl) ?_
  refine nv_if_lt (tgt := 9) hx hb (by omega) d_Preconditions_checkIndex_1 (by decide) ?_
  refine lv_iload_n hx hb d_Preconditions_checkIndex_4 rfl (lv_at hl 0 rfl) ?_
  refine lv_iload_n hx hb d_Preconditions_checkIndex_5 rfl (lv_at hl 1 rfl) ?_
  refine nv_icmp_lt (tgt := 16) hx hb (by omega) (by omega) d_Preconditions_checkIndex_6 (by decide) (fun c_2 => ?_) (fun c_2 => ?_)
  · refine lv_iload_n hx hb d_Preconditions_checkIndex_16 rfl (lv_at hl 0 rfl) ?_
    exact wr_i hx hb hr hlocks () rfl hK hP hD hS d_Preconditions_checkIndex_17
  · exfalso; omega
theorem d_Objects_checkIndex_0 : decode b_Objects_checkIndex 0 = .ok (.iload_n 0, 1) := by decide +kernel
theorem d_Objects_checkIndex_1 : decode b_Objects_checkIndex 1 = .ok (.iload_n 1, 1) := by decide +kernel
theorem d_Objects_checkIndex_2 : decode b_Objects_checkIndex 2 = .ok (.aconst_null, 1) := by decide +kernel
theorem d_Objects_checkIndex_3 : decode b_Objects_checkIndex 3 = .ok (.invokestatic 105, 3) := by decide +kernel
theorem d_Objects_checkIndex_6 : decode b_Objects_checkIndex 6 = .ok (.ireturn, 1) := by decide +kernel
set_option maxHeartbeats 4000000 in
set_option maxRecDepth 100000 in
/-- checkIndex(i, n) -/
theorem c_Objects_checkIndex (l : Launch) (dC : Nat → ClassId) (dI : Nat → Nat → Nat) (cB cI cL cZ cC cO : ClassId) (i n : Nat) (sz : Nat) (h : i < n) (hn : n < 2 ^ 31) : Met l y_Objects_checkIndex w_Objects_checkIndex ({ frames := 1, cells := 0, slots := 0, locals := 30 }) (va_Pc [.int (nI i), .int (nI n)] (wB (dC, dI) cl [(cB, .byte), (cI, .int), (cL, .long), (cZ, .boolean), (cC, .char), (cO, .object "java/lang/Object")] sz [])) (va_Qi (fun (r : Int32) (u : Unit) => r = nI i) (fun _ t => wA (dC, dI) cl [(cB, .byte), (cI, .int), (cL, .long), (cZ, .boolean), (cC, .char), (cO, .object "java/lang/Object")] (va_A [] sz) [] t) (va_A [] sz)) 0 0 (va_A [] sz) := by
  refine Met.ofW (cc := b_Objects_checkIndex) (maxL := 2) (ret := (some ClassFile.FieldType.int)) (by decide) rfl ?_
  intro p e s m args below meth c s₁ B hml hv
  obtain ⟨rfl, hsz, hP, hK, hD0, hF⟩ := hv
  have hx := B.exec
  have hb := B.bytes
  have hr := B.returns
  have hts := atoms_spec (ws := w_Objects_checkIndex) B.pre
  have hts : ∀ w ∈ tb, w.before _ s = true := fun w h => hts w (List.mem_cons_of_mem _ h)
  have hown : s.vm.findClass "java/util/Objects" = some m.cls := findClass_of_methodNamed B.named
  have hlocks := B.notSynchronized
  subst hsz
  have hD := hD0.self (sz := s.heap.size)
  generalize hAe : va_A [] s.heap.size = A at hD hF ⊢
  have hA : ∀ q : Nat, s.heap.size ≤ q → A q := fun q h => by rw [← hAe]; exact Or.inr h
  have hS : va_S A s.heap s.heap [] := va_S.rf
  have hP : va_P (dC, dI) cl [] s.heap := hP
  have hl := lv_entry ([.int (nI i), .int (nI n)]) (n := 2) (Nat.le_of_ble_eq_true rfl)
  rw [lg_entry_eq]
  generalize (lg_sl ([.int (nI i), .int (nI n)]) ++ List.replicate (2 - (lg_sl ([.int (nI i), .int (nI n)])).length) Slot.unset).toArray = ls at hl ⊢
  have hl : lv_has ls 2 [(0, .int (nI i)), (1, .int (nI n))] := hl
  refine lv_iload_n hx hb d_Objects_checkIndex_0 rfl (lv_at hl 0 rfl) ?_
  refine lv_iload_n hx hb d_Objects_checkIndex_1 rfl (lv_at hl 1 rfl) ?_
  refine lv_null hx hb d_Objects_checkIndex_2 ?_
  refine wc_i (wc := []) (wr := []) (va_runS (As := [.int (nI i), .int (nI n), .null]) (rest := []) ⟨hx, hb, hml, hown, hts⟩ (c_Preconditions_checkIndex l dC dI cB cI cL cZ cC cO i n _ h hn) (va_cwS 3 hts (good_S k_335 k_336 k_17 k_337) rfl rfl rfl (by decide +kernel) ⟨Nat.le_of_ble_eq_true rfl, Nat.le_of_ble_eq_true rfl⟩) (wc_preS hK hP hD hS hA hF [] (by decide) rfl) rfl rfl hl.1 rfl (lv_room (Nat.le_of_ble_eq_true rfl)) d_Objects_checkIndex_3 ⟨Nat.le_of_ble_eq_true rfl, Nat.le_of_ble_eq_true rfl⟩) hP hD hS hA [] [] rfl rfl (by decide) (by decide) (fun r_2 _ H locs w_1 hP hD hS => ?_)
  have hP : va_P (dC, dI) cl [] H := hP
  have hD : va_D A [] := hD
  subst w_1
  exact wr_i hx hb hr hlocks () rfl hK hP hD hS d_Objects_checkIndex_6
theorem d_ArraysSupport_newLength_0 : decode b_ArraysSupport_newLength 0 = .ok (.iload_n 0, 1) := by decide +kernel
theorem d_ArraysSupport_newLength_1 : decode b_ArraysSupport_newLength 1 = .ok (.iload_n 1, 1) := by decide +kernel
theorem d_ArraysSupport_newLength_2 : decode b_ArraysSupport_newLength 2 = .ok (.iload_n 2, 1) := by decide +kernel
theorem d_ArraysSupport_newLength_3 : decode b_ArraysSupport_newLength 3 = .ok (.invokestatic 194, 3) := by decide +kernel
theorem d_ArraysSupport_newLength_6 : decode b_ArraysSupport_newLength 6 = .ok (.iadd, 1) := by decide +kernel
theorem d_ArraysSupport_newLength_7 : decode b_ArraysSupport_newLength 7 = .ok (.istore_n 3, 1) := by decide +kernel
theorem d_ArraysSupport_newLength_8 : decode b_ArraysSupport_newLength 8 = .ok (.iconst 0, 1) := by decide +kernel
theorem d_ArraysSupport_newLength_9 : decode b_ArraysSupport_newLength 9 = .ok (.iload_n 3, 1) := by decide +kernel
theorem d_ArraysSupport_newLength_10 : decode b_ArraysSupport_newLength 10 = .ok (.if_icmp .ge 11, 3) := by decide +kernel
theorem d_ArraysSupport_newLength_13 : decode b_ArraysSupport_newLength 13 = .ok (.iload_n 3, 1) := by decide +kernel
theorem d_ArraysSupport_newLength_14 : decode b_ArraysSupport_newLength 14 = .ok (.ldc 200, 2) := by decide +kernel
theorem d_ArraysSupport_newLength_16 : decode b_ArraysSupport_newLength 16 = .ok (.if_icmp .gt 5, 3) := by decide +kernel
theorem d_ArraysSupport_newLength_19 : decode b_ArraysSupport_newLength 19 = .ok (.iload_n 3, 1) := by decide +kernel
theorem d_ArraysSupport_newLength_20 : decode b_ArraysSupport_newLength 20 = .ok (.ireturn, 1) := by decide +kernel
theorem d_ArraysSupport_newLength_21 : decode b_ArraysSupport_newLength 21 = .ok (.iload_n 0, 1) := by decide +kernel
theorem d_ArraysSupport_newLength_22 : decode b_ArraysSupport_newLength 22 = .ok (.iload_n 1, 1) := by decide +kernel
theorem d_ArraysSupport_newLength_23 : decode b_ArraysSupport_newLength 23 = .ok (.invokestatic 201, 3) := by decide +kernel
theorem d_ArraysSupport_newLength_26 : decode b_ArraysSupport_newLength 26 = .ok (.ireturn, 1) := by decide +kernel
set_option maxHeartbeats 4000000 in
set_option maxRecDepth 100000 in
/-- newLength(n, m, q) -/
theorem c_ArraysSupport_newLength (l : Launch) (dC : Nat → ClassId) (dI : Nat → Nat → Nat) (cB cI cL cZ cC cO : ClassId) (n m1 q : Nat) (sz : Nat) (hn : 0 < n) (hn1 : n < 10000) (hm : m1 < 10000) (hq : q < 10000) : Met l y_ArraysSupport_newLength w_ArraysSupport_newLength ({ frames := 1, cells := 0, slots := 0, locals := 30 }) (va_Pc [.int (nI n), .int (nI m1), .int (nI q)] (wB (dC, dI) cl [(cB, .byte), (cI, .int), (cL, .long), (cZ, .boolean), (cC, .char), (cO, .object "java/lang/Object")] sz [])) (va_Qi (fun (r : Int32) (u : Unit) => r = nI (n + max m1 q)) (fun _ t => wA (dC, dI) cl [(cB, .byte), (cI, .int), (cL, .long), (cZ, .boolean), (cC, .char), (cO, .object "java/lang/Object")] (va_A [] sz) [] t) (va_A [] sz)) 0 0 (va_A [] sz) := by
  refine Met.ofW (cc := b_ArraysSupport_newLength) (maxL := 4) (ret := (some ClassFile.FieldType.int)) (by decide) rfl ?_
  intro p e s m args below meth c s₁ B hml hv
  obtain ⟨rfl, hsz, hP, hK, hD0, hF⟩ := hv
  have hx := B.exec
  have hb := B.bytes
  have hr := B.returns
  have hts := atoms_spec (ws := w_ArraysSupport_newLength) B.pre
  have hts : ∀ w ∈ tb, w.before _ s = true := fun w h => hts w (List.mem_cons_of_mem _ h)
  have hown : s.vm.findClass "jdk/internal/util/ArraysSupport" = some m.cls := findClass_of_methodNamed B.named
  have hlocks := B.notSynchronized
  subst hsz
  have hD := hD0.self (sz := s.heap.size)
  generalize hAe : va_A [] s.heap.size = A at hD hF ⊢
  have hA : ∀ q : Nat, s.heap.size ≤ q → A q := fun q h => by rw [← hAe]; exact Or.inr h
  have hS : va_S A s.heap s.heap [] := va_S.rf
  have hP : va_P (dC, dI) cl [] s.heap := hP
  have hl := lv_entry ([.int (nI n), .int (nI m1), .int (nI q)]) (n := 4) (Nat.le_of_ble_eq_true rfl)
  rw [lg_entry_eq]
  generalize (lg_sl ([.int (nI n), .int (nI m1), .int (nI q)]) ++ List.replicate (4 - (lg_sl ([.int (nI n), .int (nI m1), .int (nI q)])).length) Slot.unset).toArray = ls at hl ⊢
  have hl : lv_has ls 4 [(0, .int (nI n)), (1, .int (nI m1)), (2, .int (nI q))] := hl
  refine lv_iload_n hx hb d_ArraysSupport_newLength_0 rfl (lv_at hl 0 rfl) ?_
  refine lv_iload_n hx hb d_ArraysSupport_newLength_1 rfl (lv_at hl 1 rfl) ?_
  refine lv_iload_n hx hb d_ArraysSupport_newLength_2 rfl (lv_at hl 2 rfl) ?_
  refine va_mmax hx hb (by rw [hml]; exact hl.1.symm) hown (hts _ k_273) (hts _ k_274) (hts _ k_13) (hts _ k_275) (Nat.le_of_ble_eq_true rfl) (Nat.le_of_ble_eq_true rfl) (Nat.le_of_ble_eq_true rfl) (Nat.le_of_ble_eq_true rfl) d_ArraysSupport_newLength_3 ?_
  rw [show (if nI m1 < nI q then nI q else nI m1) = nI (max m1 q) from nI_max (by omega) (by omega)]
  refine nv_iadd hx hb d_ArraysSupport_newLength_6 ?_
  refine lv_istore_n (lv' := [(3, .int (nI (n + (max m1 q)))), (0, .int (nI n)), (1, .int (nI m1)), (2, .int (nI q))]) hx hb d_ArraysSupport_newLength_7 rfl hl (by decide) rfl (fun ls hl => ?_)
  refine lv_iconst (v := nI 0) hx hb d_ArraysSupport_newLength_8 (by decide) ?_
  refine lv_iload_n hx hb d_ArraysSupport_newLength_9 rfl (lv_at hl 0 rfl) ?_
  refine nv_icmp_ge (tgt := 21) hx hb (by omega) (by omega) d_ArraysSupport_newLength_10 (by decide) (fun c_1 => ?_) (fun c_1 => ?_)
  · exfalso; omega
  · refine lv_iload_n hx hb d_ArraysSupport_newLength_13 rfl (lv_at hl 0 rfl) ?_
    refine lv_ldc (v := 2147483639) hx hb hown (hts _ k_276) d_ArraysSupport_newLength_14 ?_
    refine W.eq (g2 := F0 m 16 ls [.int (nI 2147483639), .int (nI (n + (max m1 q)))]) rfl ?_
    refine nv_icmp_gt (tgt := 21) hx hb (by omega) (by omega) d_ArraysSupport_newLength_16 (by decide) (fun c_2 => ?_) (fun c_2 => ?_)
    · exfalso; omega
    · refine lv_iload_n hx hb d_ArraysSupport_newLength_19 rfl (lv_at hl 0 rfl) ?_
      exact wr_i hx hb hr hlocks () rfl hK hP hD hS d_ArraysSupport_newLength_20
theorem d_AbstractCollection_init_0 : decode b_AbstractCollection_init 0 = .ok (.aload_n 0, 1) := by decide +kernel
theorem d_AbstractCollection_init_1 : decode b_AbstractCollection_init 1 = .ok (.invokespecial 1, 3) := by decide +kernel
theorem d_AbstractCollection_init_4 : decode b_AbstractCollection_init 4 = .ok (.return_, 1) := by decide +kernel
set_option maxHeartbeats 4000000 in
set_option maxRecDepth 100000 in
/-- new AbstractCollection() -/
theorem p_AbstractCollection_init (l : Launch) (dC : Nat → ClassId) (dI : Nat → Nat → Nat) (cB cI cL cZ cC cO : ClassId) {L : List Nat} {G : PG} (a : Nat) (t0 sz : Nat) (hL : gL L G) (ha : G.1 a = 7) : Met l y_AbstractCollection_init w_AbstractCollection_init ({ frames := 1, cells := 0, slots := 0, locals := 30 }) (va_Pc [.ref a] (wB2 (dC, dI) cl [(cB, .byte), (cI, .int), (cL, .long), (cZ, .boolean), (cC, .char), (cO, .object "java/lang/Object")] sz t0 ([] ++ va_pl L (gE cO G)))) (va_Qv (fun (u : Unit) => True) (fun _ t => wA (dC, dI) cl [(cB, .byte), (cI, .int), (cL, .long), (cZ, .boolean), (cC, .char), (cO, .object "java/lang/Object")] (va_A ([] ++ va_pl L (gE cO G)) sz) ([] ++ va_pl L (gE cO G)) t) (va_A ([] ++ va_pl L (gE cO G)) sz)) 0 0 (va_A ([] ++ va_pl L (gE cO G)) sz) := by
  refine Met.ofW (cc := b_AbstractCollection_init) (maxL := 1) (ret := none) (by decide) rfl ?_
  intro p e s m args below meth c s₁ B hml hv
  obtain ⟨rfl, ⟨hsz, hP, hK, hD0, hF⟩, hE⟩ := hv
  have hx := B.exec
  have hb := B.bytes
  have hr := B.returns
  have hts := atoms_spec (ws := w_AbstractCollection_init) B.pre
  have hts : ∀ w ∈ tb, w.before _ s = true := fun w h => hts w (List.mem_cons_of_mem _ h)
  have hown : s.vm.findClass "java/util/AbstractCollection" = some m.cls := findClass_of_methodNamed B.named
  have hlocks := B.notSynchronized
  have hin : meth.name = "<init>" := (name_of_methodNamed B.named B.method).1
  subst hsz
  have hD := hD0.self (sz := s.heap.size)
  generalize hAe : va_A ([] ++ va_pl L (gE cO G)) s.heap.size = A at hD hF hE ⊢
  have hA : ∀ q : Nat, s.heap.size ≤ q → A q := fun q h => by rw [← hAe]; exact Or.inr h
  have hS : va_S A s.heap s.heap [] := va_S.rf
  have hP : va_P (dC, dI) cl ([] ++ va_pl L (gE cO G)) s.heap := hP
  have hl := lv_entry ([.ref a]) (n := 1) (Nat.le_of_ble_eq_true rfl)
  rw [lg_entry_eq]
  generalize (lg_sl ([.ref a]) ++ List.replicate (1 - (lg_sl ([.ref a])).length) Slot.unset).toArray = ls at hl ⊢
  have hl : lv_has ls 1 [(0, .ref a)] := hl
  refine lv_aload_n hx hb d_AbstractCollection_init_0 rfl (lv_at hl 0 rfl) ?_
  refine W.objInit hx hb hown (hts _ k_100) (hts _ k_29) (hts _ k_30) rfl (by rw [hml]; exact hl.1) rfl d_AbstractCollection_init_1 (Nat.le_of_ble_eq_true rfl) (Nat.le_of_ble_eq_true rfl) ?_
  refine W.eq (g2 := F0 m 4 ls []) rfl ?_
  exact wr_v hx hb hr hlocks () trivial hK hP hD hS d_AbstractCollection_init_4
theorem d_AbstractList_init_0 : decode b_AbstractList_init 0 = .ok (.aload_n 0, 1) := by decide +kernel
theorem d_AbstractList_init_1 : decode b_AbstractList_init 1 = .ok (.invokespecial 1, 3) := by decide +kernel
theorem d_AbstractList_init_4 : decode b_AbstractList_init 4 = .ok (.aload_n 0, 1) := by decide +kernel
theorem d_AbstractList_init_5 : decode b_AbstractList_init 5 = .ok (.iconst 0, 1) := by decide +kernel
theorem d_AbstractList_init_6 : decode b_AbstractList_init 6 = .ok (.putfield 7, 3) := by decide +kernel
theorem d_AbstractList_init_9 : decode b_AbstractList_init 9 = .ok (.return_, 1) := by decide +kernel
set_option maxHeartbeats 4000000 in
set_option maxRecDepth 100000 in
/-- new AbstractList() -/
theorem p_AbstractList_init (l : Launch) (dC : Nat → ClassId) (dI : Nat → Nat → Nat) (cB cI cL cZ cC cO : ClassId) {L : List Nat} {G : PG} (a : Nat) (t0 sz : Nat) (hL : gL L G) (ha : G.1 a = 7) : Met l y_AbstractList_init w_AbstractList_init ({ frames := 2, cells := 0, slots := 0, locals := 60 }) (va_Pc [.ref a] (wB2 (dC, dI) cl [(cB, .byte), (cI, .int), (cL, .long), (cZ, .boolean), (cC, .char), (cO, .object "java/lang/Object")] sz t0 ([] ++ va_pl L (gE cO G)))) (va_Qv (fun (u : Unit) => True) (fun _ t => wA (dC, dI) cl [(cB, .byte), (cI, .int), (cL, .long), (cZ, .boolean), (cC, .char), (cO, .object "java/lang/Object")] (va_A ([] ++ va_pl L (gE cO G)) sz) ([] ++ va_pl L (gE cO (gN G a 2 0))) t) (va_A ([] ++ va_pl L (gE cO G)) sz)) 0 0 (va_A ([] ++ va_pl L (gE cO G)) sz) := by
  refine Met.ofW (cc := b_AbstractList_init) (maxL := 1) (ret := none) (by decide) rfl ?_
  intro p e s m args below meth c s₁ B hml hv
  obtain ⟨rfl, ⟨hsz, hP, hK, hD0, hF⟩, hE⟩ := hv
  have hx := B.exec
  have hb := B.bytes
  have hr := B.returns
  have hts := atoms_spec (ws := w_AbstractList_init) B.pre
  have hts : ∀ w ∈ tb, w.before _ s = true := fun w h => hts w (List.mem_cons_of_mem _ h)
  have hown : s.vm.findClass "java/util/AbstractList" = some m.cls := findClass_of_methodNamed B.named
  have hlocks := B.notSynchronized
  have hin : meth.name = "<init>" := (name_of_methodNamed B.named B.method).1
  subst hsz
  have hD := hD0.self (sz := s.heap.size)
  generalize hAe : va_A ([] ++ va_pl L (gE cO G)) s.heap.size = A at hD hF hE ⊢
  have hA : ∀ q : Nat, s.heap.size ≤ q → A q := fun q h => by rw [← hAe]; exact Or.inr h
  have hS : va_S A s.heap s.heap [] := va_S.rf
  have hP : va_P (dC, dI) cl ([] ++ va_pl L (gE cO G)) s.heap := hP
  have hl := lv_entry ([.ref a]) (n := 1) (Nat.le_of_ble_eq_true rfl)
  rw [lg_entry_eq]
  generalize (lg_sl ([.ref a]) ++ List.replicate (1 - (lg_sl ([.ref a])).length) Slot.unset).toArray = ls at hl ⊢
  have hl : lv_has ls 1 [(0, .ref a)] := hl
  refine lv_aload_n hx hb d_AbstractList_init_0 rfl (lv_at hl 0 rfl) ?_
  refine wd_v (cx := []) (wr := []) (pl := va_pl L (gE cO G)) (va_runI (As := []) (rest := []) ⟨hx, hb, hml, hown, hts⟩ (p_AbstractCollection_init l dC dI cB cI cL cZ cC cO a t0 _ hL ha) (cwI 0 hts (good_c k_99) rfl rfl rfl (hts _ k_5) (hts _ k_97) (hts _ k_98) rfl (by decide +kernel) ⟨Nat.le_of_ble_eq_true rfl, Nat.le_of_ble_eq_true rfl⟩) (wd_preS hK hP hD hS hA hF hE [] (by decide) rfl) rfl rfl hl.1 rfl (lv_room (Nat.le_of_ble_eq_true rfl)) d_AbstractList_init_1 ⟨Nat.le_of_ble_eq_true rfl, Nat.le_of_ble_eq_true rfl⟩) hP hD hS hA [] [] rfl rfl (by decide) (by decide) (fun _ H locs w_1 hP hD hS => ?_)
  have hP : va_P (dC, dI) cl ([] ++ va_pl L (gE cO G)) H := hP
  have hD : va_D A ([] ++ va_pl L (gE cO G)) := hD
  refine lv_aload_n hx hb d_AbstractList_init_4 rfl (lv_at hl 0 rfl) ?_
  refine lv_iconst (v := nI 0) hx hb d_AbstractList_init_5 (by decide) ?_
  refine pq_put (D := (dC, dI)) (ci := 4) (v := .int (nI 0)) (ty := .int) (C := R_List) (T := F_List) (N := 3) hx hb hts i_List t_List t_List_ok n_List hown hK hP hD hS (gL_m hL ha (by decide)) (gE_7 (G := G) ha) rfl 2 (by decide) (hts _ k_105) (fun _ h9 => h9) rfl (by decide +kernel) rfl rfl (Nat.le_of_ble_eq_true rfl) (uE_7_2 (G := G) (v := 0) ha) d_AbstractList_init_6 (fun H locs hP hD hS => ?_)
  have hP : va_P (dC, dI) cl ([] ++ va_pl L (gE cO (gN G a 2 0))) H := hP
  have hD : va_D A ([] ++ va_pl L (gE cO (gN G a 2 0))) := hD
  exact wr_v hx hb hr hlocks () trivial hK hP hD hS d_AbstractList_init_9
theorem d_List_init_0 : decode b_List_init 0 = .ok (.aload_n 0, 1) := by decide +kernel
theorem d_List_init_1 : decode b_List_init 1 = .ok (.invokespecial 1, 3) := by decide +kernel
theorem d_List_init_4 : decode b_List_init 4 = .ok (.aload_n 0, 1) := by decide +kernel
theorem d_List_init_5 : decode b_List_init 5 = .ok (.getstatic 39, 3) := by decide +kernel
theorem d_List_init_8 : decode b_List_init 8 = .ok (.putfield 9, 3) := by decide +kernel
theorem d_List_init_11 : decode b_List_init 11 = .ok (.return_, 1) := by decide +kernel
set_option maxHeartbeats 4000000 in
set_option maxRecDepth 100000 in
/-- new ArrayList() -/
theorem p_List_init (l : Launch) (dC : Nat → ClassId) (dI : Nat → Nat → Nat) (cB cI cL cZ cC cO : ClassId) {L : List Nat} {G : PG} (a : Nat) (t0 sz : Nat) (hL : gL L G) (ha : G.1 a = 7) : Met l y_List_init w_List_init ({ frames := 3, cells := 0, slots := 0, locals := 100 }) (va_Pc [.ref a] (wB2 (dC, dI) cl [(cB, .byte), (cI, .int), (cL, .long), (cZ, .boolean), (cC, .char), (cO, .object "java/lang/Object")] sz t0 ([] ++ va_pl L (gE cO G)))) (va_Qv (fun (u : Unit) => True) (fun _ t => wA (dC, dI) cl [(cB, .byte), (cI, .int), (cL, .long), (cZ, .boolean), (cC, .char), (cO, .object "java/lang/Object")] (va_A ([] ++ va_pl L (gE cO G)) sz) ([] ++ va_pl L (gE cO (gR (gN G a 2 0) a 0 (some t0)))) t) (va_A ([] ++ va_pl L (gE cO G)) sz)) 0 0 (va_A ([] ++ va_pl L (gE cO G)) sz) := by
  refine Met.ofW (cc := b_List_init) (maxL := 1) (ret := none) (by decide) rfl ?_
  intro p e s m args below meth c s₁ B hml hv
  obtain ⟨rfl, ⟨hsz, hP, hK, hD0, hF⟩, hE⟩ := hv
  have hx := B.exec
  have hb := B.bytes
  have hr := B.returns
  have hts := atoms_spec (ws := w_List_init) B.pre
  have hts : ∀ w ∈ tb, w.before _ s = true := fun w h => hts w (List.mem_cons_of_mem _ h)
  have hown : s.vm.findClass R_List = some m.cls := findClass_of_methodNamed B.named
  have hlocks := B.notSynchronized
  have hin : meth.name = "<init>" := (name_of_methodNamed B.named B.method).1
  subst hsz
  have hD := hD0.self (sz := s.heap.size)
  generalize hAe : va_A ([] ++ va_pl L (gE cO G)) s.heap.size = A at hD hF hE ⊢
  have hA : ∀ q : Nat, s.heap.size ≤ q → A q := fun q h => by rw [← hAe]; exact Or.inr h
  have hS : va_S A s.heap s.heap [] := va_S.rf
  have hP : va_P (dC, dI) cl ([] ++ va_pl L (gE cO G)) s.heap := hP
  have hl := lv_entry ([.ref a]) (n := 1) (Nat.le_of_ble_eq_true rfl)
  rw [lg_entry_eq]
  generalize (lg_sl ([.ref a]) ++ List.replicate (1 - (lg_sl ([.ref a])).length) Slot.unset).toArray = ls at hl ⊢
  have hl : lv_has ls 1 [(0, .ref a)] := hl
  refine lv_aload_n hx hb d_List_init_0 rfl (lv_at hl 0 rfl) ?_
  refine wd_v (cx := []) (wr := []) (pl := va_pl L (gE cO G)) (va_runI (As := []) (rest := []) ⟨hx, hb, hml, hown, hts⟩ (p_AbstractList_init l dC dI cB cI cL cZ cC cO a t0 _ hL ha) (cwI 0 hts (good_c k_96) rfl rfl rfl (hts _ k_6) (hts _ k_94) (hts _ k_95) rfl (by decide +kernel) ⟨Nat.le_of_ble_eq_true rfl, Nat.le_of_ble_eq_true rfl⟩) (wd_preS hK hP hD hS hA hF hE [] (by decide) rfl) rfl rfl hl.1 rfl (lv_room (Nat.le_of_ble_eq_true rfl)) d_List_init_1 ⟨Nat.le_of_ble_eq_true rfl, Nat.le_of_ble_eq_true rfl⟩) hP hD hS hA [] [] rfl rfl (by decide) (by decide) (fun _ H locs w_1 hP hD hS => ?_)
  have hP : va_P (dC, dI) cl ([] ++ va_pl L (gE cO (gN G a 2 0))) H := hP
  have hD : va_D A ([] ++ va_pl L (gE cO (gN G a 2 0))) := hD
  refine lv_aload_n hx hb d_List_init_4 rfl (lv_at hl 0 rfl) ?_
  refine va_gets hx hb hE.1 hS hown (hts _ k_101) (fun _ h9 => h9) d_List_init_5 ?_
  refine pq_put (D := (dC, dI)) (ci := 4) (v := .ref t0) (ty := .array (.object "java/lang/Object")) (C := R_List) (T := F_List) (N := 3) hx hb hts i_List t_List t_List_ok n_List hown hK hP hD hS (gL_m hL ha (by decide)) (gE_7 (G := (gN G a 2 0)) ha) rfl 0 (by decide) (hts _ k_103) (fun _ h9 => h9) rfl (by decide +kernel) rfl rfl (Nat.le_of_ble_eq_true rfl) (uE_7_0 (G := (gN G a 2 0)) (v := some t0) ha) d_List_init_8 (fun H locs hP hD hS => ?_)
  have hP : va_P (dC, dI) cl ([] ++ va_pl L (gE cO (gR (gN G a 2 0) a 0 (some t0)))) H := hP
  have hD : va_D A ([] ++ va_pl L (gE cO (gR (gN G a 2 0) a 0 (some t0)))) := hD
  exact wr_v hx hb hr hlocks () trivial hK hP hD hS d_List_init_11
theorem d_List_size_0 : decode b_List_size 0 = .ok (.aload_n 0, 1) := by decide +kernel
theorem d_List_size_1 : decode b_List_size 1 = .ok (.getfield 48, 3) := by decide +kernel
theorem d_List_size_4 : decode b_List_size 4 = .ok (.ireturn, 1) := by decide +kernel
set_option maxHeartbeats 4000000 in
set_option maxRecDepth 100000 in
/-- size() -/
theorem p_List_size (l : Launch) (dC : Nat → ClassId) (dI : Nat → Nat → Nat) (cB cI cL cZ cC cO : ClassId) {L : List Nat} {G : PG} (a : Nat) (t0 sz : Nat) (hL : gL L G) (ha : G.1 a = 7) : Met l y_List_size w_List_size ({ frames := 0, cells := 0, slots := 0, locals := 0 }) (va_Pc [.ref a] (wB2 (dC, dI) cl [(cB, .byte), (cI, .int), (cL, .long), (cZ, .boolean), (cC, .char), (cO, .object "java/lang/Object")] sz t0 ([] ++ va_pl L (gE cO G)))) (va_Qi (fun (r : Int32) (u : Unit) => r = nI (G.2.1 a 1)) (fun _ t => wA (dC, dI) cl [(cB, .byte), (cI, .int), (cL, .long), (cZ, .boolean), (cC, .char), (cO, .object "java/lang/Object")] (va_A ([] ++ va_pl L (gE cO G)) sz) ([] ++ va_pl L (gE cO G)) t) (va_A ([] ++ va_pl L (gE cO G)) sz)) 0 0 (va_A ([] ++ va_pl L (gE cO G)) sz) := by
  refine Met.ofW (cc := b_List_size) (maxL := 1) (ret := (some ClassFile.FieldType.int)) (by decide) rfl ?_
  intro p e s m args below meth c s₁ B hml hv
  obtain ⟨rfl, ⟨hsz, hP, hK, hD0, hF⟩, hE⟩ := hv
  have hx := B.exec
  have hb := B.bytes
  have hr := B.returns
  have hts := atoms_spec (ws := w_List_size) B.pre
  have hts : ∀ w ∈ tb, w.before _ s = true := fun w h => hts w (List.mem_cons_of_mem _ h)
  have hown : s.vm.findClass R_List = some m.cls := findClass_of_methodNamed B.named
  have hlocks := B.notSynchronized
  subst hsz
  have hD := hD0.self (sz := s.heap.size)
  generalize hAe : va_A ([] ++ va_pl L (gE cO G)) s.heap.size = A at hD hF hE ⊢
  have hA : ∀ q : Nat, s.heap.size ≤ q → A q := fun q h => by rw [← hAe]; exact Or.inr h
  have hS : va_S A s.heap s.heap [] := va_S.rf
  have hP : va_P (dC, dI) cl ([] ++ va_pl L (gE cO G)) s.heap := hP
  have hl := lv_entry ([.ref a]) (n := 1) (Nat.le_of_ble_eq_true rfl)
  rw [lg_entry_eq]
  generalize (lg_sl ([.ref a]) ++ List.replicate (1 - (lg_sl ([.ref a])).length) Slot.unset).toArray = ls at hl ⊢
  have hl : lv_has ls 1 [(0, .ref a)] := hl
  refine lv_aload_n hx hb d_List_size_0 rfl (lv_at hl 0 rfl) ?_
  refine pq_get (D := (dC, dI)) (ci := 4) (v := .int (nI (G.2.1 a 1))) (C := R_List) (T := F_List) (N := 3) hx hb hts i_List hown hK hP (gL_m hL ha (by decide)) (gE_7 (G := G) ha) rfl 1 (by decide) (hts _ k_104) (fun _ h9 => h9) rfl d_List_size_1 ?_
  exact wr_i hx hb hr hlocks () rfl hK hP hD hS d_List_size_4
theorem d_List_elementData_0 : decode b_List_elementData 0 = .ok (.aload_n 0, 1) := by decide +kernel
theorem d_List_elementData_1 : decode b_List_elementData 1 = .ok (.getfield 9, 3) := by decide +kernel
theorem d_List_elementData_4 : decode b_List_elementData 4 = .ok (.iload_n 1, 1) := by decide +kernel
theorem d_List_elementData_5 : decode b_List_elementData 5 = .ok (.aaload, 1) := by decide +kernel
theorem d_List_elementData_6 : decode b_List_elementData 6 = .ok (.areturn, 1) := by decide +kernel
set_option maxHeartbeats 4000000 in
set_option maxRecDepth 100000 in
/-- elementData(i) -/
theorem p_List_elementData (l : Launch) (dC : Nat → ClassId) (dI : Nat → Nat → Nat) (cB cI cL cZ cC cO : ClassId) {L : List Nat} {G : PG} (a i d n : Nat) (t0 sz : Nat) (hL : gL L G) (ha : G.1 a = 7) (h0 : G.2.2.2.2.2 a 0 = some d) (hd : G.1 d = n + 8) (hi : i < n) (hn : n < 2000) : Met l y_List_elementData w_List_elementData ({ frames := 0, cells := 0, slots := 0, locals := 0 }) (va_Pc [.ref a, .int (nI i)] (wB2 (dC, dI) cl [(cB, .byte), (cI, .int), (cL, .long), (cZ, .boolean), (cC, .char), (cO, .object "java/lang/Object")] sz t0 ([] ++ va_pl L (gE cO G)))) (va_Qq (fun (r : Option Nat) (u : Unit) => r = G.2.2.2.2.2 d i) (fun _ t => wA (dC, dI) cl [(cB, .byte), (cI, .int), (cL, .long), (cZ, .boolean), (cC, .char), (cO, .object "java/lang/Object")] (va_A ([] ++ va_pl L (gE cO G)) sz) ([] ++ va_pl L (gE cO G)) t) (va_A ([] ++ va_pl L (gE cO G)) sz)) 0 0 (va_A ([] ++ va_pl L (gE cO G)) sz) := by
  refine Met.ofW (cc := b_List_elementData) (maxL := 2) (ret := (some (ClassFile.FieldType.object "java/lang/Object"))) (by decide) rfl ?_
  intro p e s m args below meth c s₁ B hml hv
  obtain ⟨rfl, ⟨hsz, hP, hK, hD0, hF⟩, hE⟩ := hv
  have hx := B.exec
  have hb := B.bytes
  have hr := B.returns
  have hts := atoms_spec (ws := w_List_elementData) B.pre
  have hts : ∀ w ∈ tb, w.before _ s = true := fun w h => hts w (List.mem_cons_of_mem _ h)
  have hown : s.vm.findClass R_List = some m.cls := findClass_of_methodNamed B.named
  have hlocks := B.notSynchronized
  subst hsz
  have hD := hD0.self (sz := s.heap.size)
  generalize hAe : va_A ([] ++ va_pl L (gE cO G)) s.heap.size = A at hD hF hE ⊢
  have hA : ∀ q : Nat, s.heap.size ≤ q → A q := fun q h => by rw [← hAe]; exact Or.inr h
  have hS : va_S A s.heap s.heap [] := va_S.rf
  have hP : va_P (dC, dI) cl ([] ++ va_pl L (gE cO G)) s.heap := hP
  have hl := lv_entry ([.ref a, .int (nI i)]) (n := 2) (Nat.le_of_ble_eq_true rfl)
  rw [lg_entry_eq]
  generalize (lg_sl ([.ref a, .int (nI i)]) ++ List.replicate (2 - (lg_sl ([.ref a, .int (nI i)])).length) Slot.unset).toArray = ls at hl ⊢
  have hl : lv_has ls 2 [(0, .ref a), (1, .int (nI i))] := hl
  refine lv_aload_n hx hb d_List_elementData_0 rfl (lv_at hl 0 rfl) ?_
  refine pq_get (D := (dC, dI)) (ci := 4) (v := .ref d) (C := R_List) (T := F_List) (N := 3) hx hb hts i_List hown hK hP (gL_m hL ha (by decide)) (gE_7 (G := G) ha) rfl 0 (by decide) (hts _ k_103) (fun _ h9 => h9) (congrArg (fun z9 => some (va_rf z9)) h0) d_List_elementData_1 ?_
  refine lv_iload_n hx hb d_List_elementData_4 rfl (lv_at hl 1 rfl) ?_
  refine pq_ald (v := va_rf (G.2.2.2.2.2 d i)) hx hb hK hP (gL_m hL hd (by omega)) (gE_8 (G := G) hd) 5 rfl (by omega) (by omega) rfl d_List_elementData_5 ?_
  exact wr_q hx hb hr ⟨_, rfl⟩ hlocks () rfl hK hP hD hS d_List_elementData_6
theorem d_List_get_0 : decode b_List_get 0 = .ok (.iload_n 1, 1) := by decide +kernel
theorem d_List_get_1 : decode b_List_get 1 = .ok (.aload_n 0, 1) := by decide +kernel
theorem d_List_get_2 : decode b_List_get 2 = .ok (.getfield 48, 3) := by decide +kernel
theorem d_List_get_5 : decode b_List_get 5 = .ok (.invokestatic 118, 3) := by decide +kernel
theorem d_List_get_8 : decode b_List_get 8 = .ok (.pop, 1) := by decide +kernel
theorem d_List_get_9 : decode b_List_get 9 = .ok (.aload_n 0, 1) := by decide +kernel
theorem d_List_get_10 : decode b_List_get 10 = .ok (.iload_n 1, 1) := by decide +kernel
theorem d_List_get_11 : decode b_List_get 11 = .ok (.invokevirtual 123, 3) := by decide +kernel
theorem d_List_get_14 : decode b_List_get 14 = .ok (.areturn, 1) := by decide +kernel
set_option maxHeartbeats 4000000 in
set_option maxRecDepth 100000 in
/-- get(i) -/
theorem p_List_get (l : Launch) (dC : Nat → ClassId) (dI : Nat → Nat → Nat) (cB cI cL cZ cC cO : ClassId) {L : List Nat} {G : PG} (a i : Nat) (xs : List Nat) (t0 sz : Nat) (hL : gL L G) (h : LSx t0 G a xs) (hi : i < xs.length) : Met l y_List_get w_List_get ({ frames := 2, cells := 0, slots := 0, locals := 80 }) (va_Pc [.ref a, .int (nI i)] (wB2 (dC, dI) cl [(cB, .byte), (cI, .int), (cL, .long), (cZ, .boolean), (cC, .char), (cO, .object "java/lang/Object")] sz t0 ([] ++ va_pl L (gE cO G)))) (va_Qq (fun (r : Option Nat) (u : Unit) => r = xs[i]?) (fun _ t => wA (dC, dI) cl [(cB, .byte), (cI, .int), (cL, .long), (cZ, .boolean), (cC, .char), (cO, .object "java/lang/Object")] (va_A ([] ++ va_pl L (gE cO G)) sz) ([] ++ va_pl L (gE cO G)) t) (va_A ([] ++ va_pl L (gE cO G)) sz)) 0 0 (va_A ([] ++ va_pl L (gE cO G)) sz) := by
  refine Met.ofW (cc := b_List_get) (maxL := 2) (ret := (some (ClassFile.FieldType.object "java/lang/Object"))) (by decide) rfl ?_
  intro p e s m args below meth c s₁ B hml hv
  obtain ⟨rfl, ⟨hsz, hP, hK, hD0, hF⟩, hE⟩ := hv
  have hx := B.exec
  have hb := B.bytes
  have hr := B.returns
  have hts := atoms_spec (ws := w_List_get) B.pre
  have hts : ∀ w ∈ tb, w.before _ s = true := fun w h => hts w (List.mem_cons_of_mem _ h)
  have hown : s.vm.findClass R_List = some m.cls := findClass_of_methodNamed B.named
  have hlocks := B.notSynchronized
  subst hsz
  have hD := hD0.self (sz := s.heap.size)
  generalize hAe : va_A ([] ++ va_pl L (gE cO G)) s.heap.size = A at hD hF hE ⊢
  have hA : ∀ q : Nat, s.heap.size ≤ q → A q := fun q h => by rw [← hAe]; exact Or.inr h
  have hS : va_S A s.heap s.heap [] := va_S.rf
  have hP : va_P (dC, dI) cl ([] ++ va_pl L (gE cO G)) s.heap := hP
  have hl := lv_entry ([.ref a, .int (nI i)]) (n := 2) (Nat.le_of_ble_eq_true rfl)
  rw [lg_entry_eq]
  generalize (lg_sl ([.ref a, .int (nI i)]) ++ List.replicate (2 - (lg_sl ([.ref a, .int (nI i)])).length) Slot.unset).toArray = ls at hl ⊢
  have hl : lv_has ls 2 [(0, .ref a), (1, .int (nI i))] := hl
  rcases h with ⟨_, _, _, q9⟩ | ⟨d, n, ha, hs, h0, hd, h5, h6, h7, h8, h9⟩
  · rw [q9] at hi; exact absurd hi (Nat.not_lt_zero _)
  refine lv_iload_n hx hb d_List_get_0 rfl (lv_at hl 1 rfl) ?_
  refine lv_aload_n hx hb d_List_get_1 rfl (lv_at hl 0 rfl) ?_
  refine pq_get (D := (dC, dI)) (ci := 4) (v := .int (nI xs.length)) (C := R_List) (T := F_List) (N := 3) hx hb hts i_List hown hK hP (gL_m hL ha (by decide)) (gE_7 (G := G) ha) rfl 1 (by decide) (hts _ k_104) (fun _ h9 => h9) (congrArg (fun z9 => some (Value.int (nI z9))) hs) d_List_get_2 ?_
  refine we_i (cx := []) (wr := []) (pl := va_pl L (gE cO G)) (va_runS (As := [.int (nI i), .int (nI xs.length)]) (rest := []) ⟨hx, hb, hml, hown, hts⟩ (c_Objects_checkIndex l dC dI cB cI cL cZ cC cO i xs.length _ hi (by omega)) (va_cwS 2 hts (good_S k_332 k_333 k_16 k_334) rfl rfl rfl (by decide +kernel) ⟨Nat.le_of_ble_eq_true rfl, Nat.le_of_ble_eq_true rfl⟩) (wc_preS hK hP hD hS hA hF [] (by decide) rfl) rfl rfl hl.1 rfl (lv_room (Nat.le_of_ble_eq_true rfl)) d_List_get_5 ⟨Nat.le_of_ble_eq_true rfl, Nat.le_of_ble_eq_true rfl⟩) hP hD hS hA [] [] rfl rfl (by decide) (by decide) (fun r_2 _ H locs w_1 hP hD hS => ?_)
  have hP : va_P (dC, dI) cl ([] ++ va_pl L (gE cO G)) H := hP
  have hD : va_D A ([] ++ va_pl L (gE cO G)) := hD
  subst w_1
  refine lv_pop hx hb d_List_get_8 rfl ?_
  refine lv_aload_n hx hb d_List_get_9 rfl (lv_at hl 0 rfl) ?_
  refine lv_iload_n hx hb d_List_get_10 rfl (lv_at hl 1 rfl) ?_
  refine wd_q (cx := []) (wr := []) (pl := va_pl L (gE cO G)) (va_runV (As := [.int (nI i)]) (rest := []) ⟨hx, hb, hml, hown, hts⟩ (p_List_elementData l dC dI cB cI cL cZ cC cO a i d n t0 _ hL ha h0 hd (by omega) (by omega)) (cwV 1 hts (good_V k_338 k_339 k_340 k_7 k_341) rfl rfl rfl (by decide +kernel) ⟨Nat.le_of_ble_eq_true rfl, Nat.le_of_ble_eq_true rfl⟩) (wd_preV (ci := 4) (r := (R_List, F_List, 3)) hK hP hD hS hA hF hE [] (by decide) rfl rfl (pq_at (gL_m hL ha (by decide)) (gE_7 (G := G) ha))) rfl rfl hl.1 rfl (lv_room (Nat.le_of_ble_eq_true rfl)) d_List_get_11 ⟨Nat.le_of_ble_eq_true rfl, Nat.le_of_ble_eq_true rfl⟩) hP hD hS hA [] [] rfl rfl (by decide) (by decide) (fun r_4 _ H locs w_3 hP hD hS => ?_)
  have hP : va_P (dC, dI) cl ([] ++ va_pl L (gE cO G)) H := hP
  have hD : va_D A ([] ++ va_pl L (gE cO G)) := hD
  subst w_3
  exact wr_q hx hb hr ⟨_, rfl⟩ hlocks () (h8 i hi) hK hP hD hS d_List_get_14
