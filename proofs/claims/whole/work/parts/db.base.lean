theorem arr_of {ty : FieldType} {args : Array Value} {s : State} (h : (Cond.arrayClass ty).before args s = true) : ∃ cA, ArrOfT s cA ty ∧ s.vm.findClass ("[" ++ ty.toString) = some cA := by
  obtain ⟨c, k, comp, h1, h2, h3⟩ := Cond.arrayClass_spec h
  exact ⟨c, fun n z => ⟨fun k h => (by cases h), k, h2, comp, h3⟩, h1⟩
theorem arr_ov {C : String} {args : Array Value} {s : State} (h : (Cond.arrayOver (.object C)).before args s = true) : ∃ cA, ArrOfT s cA (.object C) ∧ va_RA s cA (.object C) := by
  obtain ⟨comp, c, k, h1, -, h2, h3, h4⟩ := Cond.arrayOver_spec h
  exact ⟨c, fun n z => ⟨fun k h => (by cases h), k, h2, comp, h3⟩, k, comp, h2, h3, h1, h4⟩
set_option maxHeartbeats 8000000 in
set_option maxRecDepth 100000 in
theorem law_base {p : Program} {s : State} {m : MethodId} {meth : Method} {c : Code} {b L : Nat} {xs : Nat → Int32} (C0 : lw_At p s m meth c b L xs) : ∃ (dC : Nat → ClassId) (dI : Nat → Nat → Nat) (cB cI cL cZ cC cO : ClassId) (t0 : Nat), va_K (dC, dI) cl [(cB, .byte), (cI, .int), (cL, .long), (cZ, .boolean), (cC, .char), (cO, .object "java/lang/Object")] s ∧ stF (fun q : Nat => s.heap.size ≤ q) s ∧ stE (fun q : Nat => s.heap.size ≤ q) t0 s := by
  obtain ⟨hx, hb, hr, hml, hown, hts0, hX, hbl, hlocks, hgv⟩ := id C0
  have hts : ∀ w ∈ tb, w.before #[Value.ref b] s = true := fun w h => hts0 w (List.mem_filter.mp h).1
  have hAn : ∀ a : Nat, a < s.heap.size → ¬ (fun q : Nat => s.heap.size ≤ q) a := fun a h => Nat.not_le.mpr h
  obtain ⟨c0, i0, hk0⟩ := u_known (C := R_Desk) (T := F_Desk) (N := 5) (n := 5) hts i_Desk (hts (.instantiable R_Desk 5) k_24)
  obtain ⟨c1, i1, hk1⟩ := u_known (C := R_Text) (T := F_Text) (N := 7) (n := 7) hts i_Text (hts (.instantiable R_Text 7) k_32)
  obtain ⟨c2, i2, hk2⟩ := u_known (C := R_Fault) (T := F_Fault) (N := 2) (n := 2) hts i_Fault (hts (.instantiable R_Fault 2) k_69)
  obtain ⟨c3, i3, hk3⟩ := u_known (C := R_Parser) (T := F_Parser) (N := 4) (n := 4) hts i_Parser (hts (.instantiable R_Parser 4) k_84)
  obtain ⟨c4, i4, hk4⟩ := u_known (C := R_List) (T := F_List) (N := 3) (n := 3) hts i_List (hts (.instantiable R_List 3) k_90)
  obtain ⟨c5, i5, hk5⟩ := u_known (C := R_Checker) (T := F_Checker) (N := 5) (n := 5) hts i_Checker (hts (.instantiable R_Checker 5) k_130)
  obtain ⟨c6, i6, hk6⟩ := u_known (C := R_Chip) (T := F_Chip) (N := 9) (n := 9) hts i_Chip (hts (.instantiable R_Chip 9) k_139)
  obtain ⟨c7, i7, hk7⟩ := u_known (C := R_Name) (T := F_Name) (N := 3) (n := 3) hts i_Name (hts (.instantiable R_Name 3) k_141)
  obtain ⟨c8, i8, hk8⟩ := u_known (C := R_Wire) (T := F_Wire) (N := 7) (n := 7) hts i_Wire (hts (.instantiable R_Wire 7) k_208)
  obtain ⟨c9, i9, hk9⟩ := u_known (C := R_Board) (T := F_Board) (N := 19) (n := 19) hts i_Board (hts (.instantiable R_Board 19) k_368)
  obtain ⟨c10, i10, hk10⟩ := u_known (C := R_Part) (T := F_Part) (N := 3) (n := 3) hts i_Part (hts (.instantiable R_Part 3) k_576)
  obtain ⟨c11, i11, hk11⟩ := u_known (C := R_Side) (T := F_Side) (N := 5) (n := 5) hts i_Side (hts (.instantiable R_Side 5) k_608)
  obtain ⟨c12, i12, hk12⟩ := u_known (C := R_Link) (T := F_Link) (N := 4) (n := 4) hts i_Link (hts (.instantiable R_Link 4) k_647)
  obtain ⟨c13, i13, hk13⟩ := u_known (C := R_Model) (T := F_Model) (N := 71) (n := 71) hts i_Model (hts (.instantiable R_Model 71) k_869)
  obtain ⟨cB, acB, ncB⟩ := arr_of (hts _ k_65)
  obtain ⟨cI, acI, ncI⟩ := arr_of (hts _ k_66)
  obtain ⟨cL, acL, ncL⟩ := arr_of (hts _ k_67)
  obtain ⟨cZ, acZ, ncZ⟩ := arr_of (hts _ k_431)
  obtain ⟨cC, acC, ncC⟩ := arr_of (hts _ k_1088)
  have hao : (Cond.arrayOver (ClassFile.FieldType.object "java/lang/Object")).before #[Value.ref b] s = true := hts0 _ (List.mem_append_right _ (tb_2 (List.mem_of_getElem? (i := 65) rfl)))
  obtain ⟨cO, acO, ncO⟩ := arr_ov hao
  have hs := flat_of_before _ hgv
  have k1 : (Cond.arrayOf (.static "ChipDesk$Text" "KEYWORDS" "[J") .long).before #[Value.ref b] s = true := hs _ (by decide +kernel)
  have k2 : (Cond.eq (.length (.static "ChipDesk$Text" "KEYWORDS" "[J")) (.int 6)).before #[Value.ref b] s = true := hs _ (by decide +kernel)
  have e0 : (Cond.eq (.elem (.static "ChipDesk$Text" "KEYWORDS" "[J") (.int 0)) (.long 1128810832)).before #[Value.ref b] s = true := hs _ (by decide +kernel)
  have e1 : (Cond.eq (.elem (.static "ChipDesk$Text" "KEYWORDS" "[J") (.int 1)) (.long 18766)).before #[Value.ref b] s = true := hs _ (by decide +kernel)
  have e2 : (Cond.eq (.elem (.static "ChipDesk$Text" "KEYWORDS" "[J") (.int 2)) (.long 5199188)).before #[Value.ref b] s = true := hs _ (by decide +kernel)
  have e3 : (Cond.eq (.elem (.static "ChipDesk$Text" "KEYWORDS" "[J") (.int 3)) (.long 344693298259)).before #[Value.ref b] s = true := hs _ (by decide +kernel)
  have e4 : (Cond.eq (.elem (.static "ChipDesk$Text" "KEYWORDS" "[J") (.int 4)) (.long 1953658213)).before #[Value.ref b] s = true := hs _ (by decide +kernel)
  have e5 : (Cond.eq (.elem (.static "ChipDesk$Text" "KEYWORDS" "[J") (.int 5)) (.long 439721161573)).before #[Value.ref b] s = true := hs _ (by decide +kernel)
  have k3 : (Cond.arrayOf (.static "java/util/ArrayList" "DEFAULTCAPACITY_EMPTY_ELEMENTDATA" "[Ljava/lang/Object;") (.object "java/lang/Object")).before #[Value.ref b] s = true := hs _ (by decide +kernel)
  have k4 : (Cond.eq (.length (.static "java/util/ArrayList" "DEFAULTCAPACITY_EMPTY_ELEMENTDATA" "[Ljava/lang/Object;")) (.int 0)).before #[Value.ref b] s = true := hs _ (by decide +kernel)
  have k5 : (Cond.isRef (.mirror "[Ljava/lang/Object;")).before #[Value.ref b] s = true := hs _ (by decide +kernel)
  have hel : ∀ j : Nat, j < 6 → (Term.elem (.static "ChipDesk$Text" "KEYWORDS" "[J") (.int (Int32.ofNat j))).eval #[Value.ref b] s none [] s = some (kwv j) := fun j hj => by
    match j, hj with
    | 0, _ => exact va_eqtl e0
    | 1, _ => exact va_eqtl e1
    | 2, _ => exact va_eqtl e2
    | 3, _ => exact va_eqtl e3
    | 4, _ => exact va_eqtl e4
    | 5, _ => exact va_eqtl e5
    | j + 6, hj => exact absurd hj (by omega)
  obtain ⟨t1, v1, z1⟩ := va_Tof (N := 6) (f := kwv) (by decide) k1 (va_eqt k2) hel hAn
  obtain ⟨t0, v0, z0⟩ := va_Tof (N := 0) (f := fun _ => .null) (by decide) k3 (va_eqt k4) (fun j hj => absurd hj (Nat.not_lt_zero _)) hAn
  have y1 := va_Zref (hts0 _ (List.mem_append_right _ (tb_3 (List.mem_of_getElem? (i := 33) rfl)))) (hts0 _ (List.mem_append_right _ (tb_1 (List.mem_of_getElem? (i := 2) rfl)))) v1 hAn
  have y0 := va_Zref (hts0 _ (List.mem_append_right _ (tb_1 (List.mem_of_getElem? (i := 102) rfl)))) (hts0 _ (List.mem_append_right _ (tb_1 (List.mem_of_getElem? (i := 7) rfl)))) v0 hAn
  have hnw : ∀ w ∈ nwl, va_Nw w s := List.forall_mem_cons.mpr ⟨va_Nw.of rfl (hts0 _ (List.mem_append_right _ (tb_1 (List.mem_of_getElem? (i := 33) rfl)))), List.forall_mem_cons.mpr ⟨va_Nw.of rfl (hts0 _ (List.mem_append_right _ (tb_1 (List.mem_of_getElem? (i := 70) rfl)))), List.forall_mem_cons.mpr ⟨va_Nw.of rfl (hts0 _ (List.mem_append_right _ (tb_2 (List.mem_of_getElem? (i := 129) rfl)))), List.forall_mem_cons.mpr ⟨va_Nw.of rfl (hts0 _ (List.mem_append_right _ (tb_6 (List.mem_of_getElem? (i := 156) rfl)))), List.forall_mem_cons.mpr ⟨va_Nw.of rfl (hts0 _ (List.mem_append_right _ (tb_6 (List.mem_of_getElem? (i := 157) rfl)))), List.forall_mem_cons.mpr ⟨va_Nw.of rfl (hts0 _ (List.mem_append_right _ (tb_6 (List.mem_of_getElem? (i := 158) rfl)))), List.forall_mem_cons.mpr ⟨va_Nw.of rfl (hts0 _ (List.mem_append_right _ (tb_6 (List.mem_of_getElem? (i := 159) rfl)))), List.forall_mem_cons.mpr ⟨va_Nw.of rfl (hts0 _ (List.mem_append_right _ (tb_6 (List.mem_of_getElem? (i := 163) rfl)))), List.forall_mem_cons.mpr ⟨va_Nw.of rfl (hts0 _ (List.mem_append_right _ (tb_6 (List.mem_of_getElem? (i := 164) rfl)))), List.forall_mem_cons.mpr ⟨va_Nw.of rfl (hts0 _ (List.mem_append_right _ (tb_6 (List.mem_of_getElem? (i := 165) rfl)))), List.forall_mem_cons.mpr ⟨va_Nw.of rfl (hts0 _ (List.mem_append_right _ (tb_6 (List.mem_of_getElem? (i := 166) rfl)))), List.forall_mem_cons.mpr ⟨va_Nw.of rfl (hts0 _ (List.mem_append_right _ (tb_6 (List.mem_of_getElem? (i := 167) rfl)))), List.forall_mem_cons.mpr ⟨va_Nw.of rfl (hts0 _ (List.mem_append_right _ (tb_6 (List.mem_of_getElem? (i := 168) rfl)))), List.forall_mem_cons.mpr ⟨va_Nw.of rfl (hts0 _ (List.mem_append_right _ (tb_6 (List.mem_of_getElem? (i := 169) rfl)))), List.forall_mem_cons.mpr ⟨va_Nw.of rfl (hts0 _ (List.mem_append_right _ (tb_6 (List.mem_of_getElem? (i := 170) rfl)))), List.forall_mem_cons.mpr ⟨va_Nw.of rfl (hts0 _ (List.mem_append_right _ (tb_6 (List.mem_of_getElem? (i := 171) rfl)))), List.forall_mem_cons.mpr ⟨va_Nw.of rfl (hts0 _ (List.mem_append_right _ (tb_6 (List.mem_of_getElem? (i := 172) rfl)))), List.forall_mem_cons.mpr ⟨va_Nw.of rfl (hts0 _ (List.mem_append_right _ (tb_6 (List.mem_of_getElem? (i := 173) rfl)))), List.forall_mem_cons.mpr ⟨va_Nw.of rfl (hts0 _ (List.mem_append_right _ (tb_6 (List.mem_of_getElem? (i := 174) rfl)))), List.forall_mem_cons.mpr ⟨va_Nw.of rfl (hts0 _ (List.mem_append_right _ (tb_6 (List.mem_of_getElem? (i := 175) rfl)))), fun _ h9 => absurd h9 List.not_mem_nil⟩⟩⟩⟩⟩⟩⟩⟩⟩⟩⟩⟩⟩⟩⟩⟩⟩⟩⟩⟩
  refine ⟨fun k => [c0, c1, c2, c3, c4, c5, c6, c7, c8, c9, c10, c11, c12, c13].getD k c0, fun k => [i0, i1, i2, i3, i4, i5, i6, i7, i8, i9, i10, i11, i12, i13].getD k i0, cB, cI, cL, cZ, cC, cO, t0, ⟨fun k q hq => ?_, fun k q hq => ?_⟩, ⟨⟨t1, y1, z1⟩, ⟨t0, y0, z0⟩, va_Mi.of k5, va_AO.of hao, hnw⟩, y0, z0, va_Dc.of (hts0 _ (List.mem_append_right _ (tb_6 (List.mem_of_getElem? (i := 162) rfl)))), va_any rfl (hts0 _ (List.mem_append_right _ (tb_2 (List.mem_of_getElem? (i := 60) rfl)))), va_any rfl (hts0 _ (List.mem_append_right _ (tb_2 (List.mem_of_getElem? (i := 72) rfl))))⟩
  · match k, hq with
    | 0, hq => cases hq; exact hk0
    | 1, hq => cases hq; exact hk1
    | 2, hq => cases hq; exact hk2
    | 3, hq => cases hq; exact hk3
    | 4, hq => cases hq; exact hk4
    | 5, hq => cases hq; exact hk5
    | 6, hq => cases hq; exact hk6
    | 7, hq => cases hq; exact hk7
    | 8, hq => cases hq; exact hk8
    | 9, hq => cases hq; exact hk9
    | 10, hq => cases hq; exact hk10
    | 11, hq => cases hq; exact hk11
    | 12, hq => cases hq; exact hk12
    | 13, hq => cases hq; exact hk13
    | k + 14, hq => simp [cl] at hq
  · match k, hq with
    | 0, hq => cases hq; exact ⟨acB, ncB⟩
    | 1, hq => cases hq; exact ⟨acI, ncI⟩
    | 2, hq => cases hq; exact ⟨acL, ncL⟩
    | 3, hq => cases hq; exact ⟨acZ, ncZ⟩
    | 4, hq => cases hq; exact ⟨acC, ncC⟩
    | 5, hq => cases hq; exact ⟨acO, ncO⟩
    | k + 6, hq => simp at hq
