/-- a list without elements that has no array as yet -/
def LS0 (t0 : Nat) (G : PG) (l : Nat) : Prop := G.1 l = 7 ∧ G.2.1 l 1 = 0 ∧ G.2.2.2.2.2 l 0 = some t0
theorem LS0.x {t0 : Nat} {G G' : PG} {l : Nat} (h : LS0 t0 G l) (hg : gs G G' l) : LSx t0 G' l [] := Or.inl ⟨hg.1.trans h.1, by rw [hg.2.1]; exact h.2.1, by rw [hg.2.2.2.2.2]; exact h.2.2, rfl⟩
/-- a new chip, with its three lists -/
def chp (t0 : Nat) (G : PG) (a nm gt ix l1 l2 l3 : Nat) : PG := gN (gN (gR (gN (gN (gN (gR (gR (gN (g0 (gR (gR (gN (g0 (gR (gR (gN (g0 G l1 7) l1 2 0) l1 0 (some t0)) a 3 (some l1)) l2 7) l2 2 0) l2 0 (some t0)) a 4 (some l2)) l3 7) l3 2 0) l3 0 (some t0)) a 5 (some l3)) a 6 0) a 7 0) a 8 0) a 0 (some nm)) a 1 gt) a 2 ix
def isC (G : PG) (a nm gt ix l1 l2 l3 ip : Nat) : Prop := G.1 a = 6 ∧ G.2.2.2.2.2 a 0 = some nm ∧ G.2.1 a 1 = gt ∧ G.2.1 a 2 = ix ∧ G.2.2.2.2.2 a 3 = some l1 ∧ G.2.2.2.2.2 a 4 = some l2 ∧ G.2.2.2.2.2 a 5 = some l3 ∧ G.2.1 a 6 = ip
theorem isC.keep {G G' : PG} {a nm gt ix l1 l2 l3 ip : Nat} (h : isC G a nm gt ix l1 l2 l3 ip) (hg : gs G G' a) : isC G' a nm gt ix l1 l2 l3 ip := by
  obtain ⟨g1, g2, g3, g4, g5, g6⟩ := hg
  unfold isC at h ⊢
  rw [g1, g2, g6]; exact h
theorem chp_gs {t0 : Nat} {G : PG} {a nm gt ix l1 l2 l3 b : Nat} (h : b ≠ a) (h1 : b ≠ l1) (h2 : b ≠ l2) (h3 : b ≠ l3) : gs G (chp t0 G a nm gt ix l1 l2 l3) b := by
  have e1 : ∀ (G : PG) (q : Nat), b ≠ q → gs G (gR (gN (g0 G q 7) q 2 0) q 0 (some t0)) b := fun G q hq => ((gs_0 hq).tr (gs_N hq)).tr (gs_R hq)
  exact (((((((((((e1 G l1 h1).tr (gs_R h)).tr (e1 _ l2 h2)).tr (gs_R h)).tr (e1 _ l3 h3)).tr (gs_R h)).tr (gs_N h)).tr (gs_N h)).tr (gs_N h)).tr (gs_R h)).tr (gs_N h)).tr (gs_N h)
theorem isC_new {t0 : Nat} {G : PG} {a nm gt ix l1 l2 l3 : Nat} {L : List Nat} (hL : gL L G) (ha : G.1 a = 6) (h1 : l1 ∉ L) (h2 : l2 ∉ L ++ [l1]) (h3 : l3 ∉ L ++ [l1] ++ [l2]) : isC (chp t0 G a nm gt ix l1 l2 l3) a nm gt ix l1 l2 l3 0 ∧ LS0 t0 (chp t0 G a nm gt ix l1 l2 l3) l1 ∧ LS0 t0 (chp t0 G a nm gt ix l1 l2 l3) l2 ∧ LS0 t0 (chp t0 G a nm gt ix l1 l2 l3) l3 ∧ gL (L ++ [l1] ++ [l2] ++ [l3]) (chp t0 G a nm gt ix l1 l2 l3) := by
  have am : a ∈ L := gL_m hL ha (by decide)
  have a1 : a ≠ l1 := fun e => h1 (e ▸ am)
  have a2 : a ≠ l2 := fun e => h2 (e ▸ List.mem_append_left _ am)
  have a3 : a ≠ l3 := fun e => h3 (e ▸ List.mem_append_left _ (List.mem_append_left _ am))
  have d12 : l1 ≠ l2 := fun e => h2 (e ▸ List.mem_append_right _ (List.mem_singleton.mpr rfl))
  have d13 : l1 ≠ l3 := fun e => h3 (e ▸ List.mem_append_left _ (List.mem_append_right _ (List.mem_singleton.mpr rfl)))
  have d23 : l2 ≠ l3 := fun e => h3 (e ▸ List.mem_append_right _ (List.mem_singleton.mpr rfl))
  have b1 := a1.symm
  have b2 := a2.symm
  have b3 := a3.symm
  have c12 := d12.symm
  have c13 := d13.symm
  have c23 := d23.symm
  refine ⟨⟨?_, ?_, ?_, ?_, ?_, ?_, ?_, ?_⟩, ⟨?_, ?_, ?_⟩, ⟨?_, ?_, ?_⟩, ⟨?_, ?_, ?_⟩, gL_new (gL_new (gL_new hL))⟩ <;> simp [chp, g0, up2, va_up, a1, a2, a3, b1, b2, b3, d12, d13, d23, c12, c13, c23, ha]
/-- startChip: what it answers; where it stands, and the fault -/
def sch (fk : Nat → Int32) (pp : Nat → Nat) (y : Bool) (a : Nat) (v0 v1 : Value) : Bool × (Nat × Value × Value) :=
  if wt_ok fk a (nI 6) = true then
    if wn_ok fk (a + 1) y = true then (wt_ok fk (a + 1 + 1) (nI 123), wt_to fk (nF pp) (a + 1 + 1) (nI 123) v0 v1)
    else (false, (a + 1, (wn_to fk (nF pp) (a + 1) y v0 v1).1, (wn_to fk (nF pp) (a + 1) y v0 v1).2))
  else (false, wt_to fk (nF pp) a (nI 6) v0 v1)
theorem d_Parser_startChip_0 : decode b_Parser_startChip 0 = .ok (.aload_n 0, 1) := by decide +kernel
theorem d_Parser_startChip_1 : decode b_Parser_startChip 1 = .ok (.bipush 6, 2) := by decide +kernel
theorem d_Parser_startChip_3 : decode b_Parser_startChip 3 = .ok (.invokevirtual 43, 3) := by decide +kernel
theorem d_Parser_startChip_6 : decode b_Parser_startChip 6 = .ok (.ifCond .eq 27, 3) := by decide +kernel
theorem d_Parser_startChip_9 : decode b_Parser_startChip 9 = .ok (.aload_n 0, 1) := by decide +kernel
theorem d_Parser_startChip_10 : decode b_Parser_startChip 10 = .ok (.aload_n 0, 1) := by decide +kernel
theorem d_Parser_startChip_11 : decode b_Parser_startChip 11 = .ok (.getfield 10, 3) := by decide +kernel
theorem d_Parser_startChip_14 : decode b_Parser_startChip 14 = .ok (.invokevirtual 54, 3) := by decide +kernel
theorem d_Parser_startChip_17 : decode b_Parser_startChip 17 = .ok (.bipush 8, 2) := by decide +kernel
theorem d_Parser_startChip_19 : decode b_Parser_startChip 19 = .ok (.if_icmp .ge 7, 3) := by decide +kernel
theorem d_Parser_startChip_22 : decode b_Parser_startChip 22 = .ok (.iconst 1, 1) := by decide +kernel
theorem d_Parser_startChip_23 : decode b_Parser_startChip 23 = .ok (.goto 4, 3) := by decide +kernel
theorem d_Parser_startChip_26 : decode b_Parser_startChip 26 = .ok (.iconst 0, 1) := by decide +kernel
theorem d_Parser_startChip_27 : decode b_Parser_startChip 27 = .ok (.invokevirtual 58, 3) := by decide +kernel
theorem d_Parser_startChip_30 : decode b_Parser_startChip 30 = .ok (.ifCond .ne 5, 3) := by decide +kernel
theorem d_Parser_startChip_33 : decode b_Parser_startChip 33 = .ok (.aconst_null, 1) := by decide +kernel
theorem d_Parser_startChip_34 : decode b_Parser_startChip 34 = .ok (.areturn, 1) := by decide +kernel
theorem d_Parser_startChip_35 : decode b_Parser_startChip 35 = .ok (.new 62, 3) := by decide +kernel
theorem d_Parser_startChip_38 : decode b_Parser_startChip 38 = .ok (.dup, 1) := by decide +kernel
theorem d_Parser_startChip_39 : decode b_Parser_startChip 39 = .ok (.aload_n 0, 1) := by decide +kernel
theorem d_Parser_startChip_40 : decode b_Parser_startChip 40 = .ok (.invokevirtual 64, 3) := by decide +kernel
theorem d_Parser_startChip_43 : decode b_Parser_startChip 43 = .ok (.iconst 0, 1) := by decide +kernel
theorem d_Parser_startChip_44 : decode b_Parser_startChip 44 = .ok (.aload_n 0, 1) := by decide +kernel
theorem d_Parser_startChip_45 : decode b_Parser_startChip 45 = .ok (.getfield 10, 3) := by decide +kernel
theorem d_Parser_startChip_48 : decode b_Parser_startChip 48 = .ok (.invokevirtual 54, 3) := by decide +kernel
theorem d_Parser_startChip_51 : decode b_Parser_startChip 51 = .ok (.invokespecial 68, 3) := by decide +kernel
theorem d_Parser_startChip_54 : decode b_Parser_startChip 54 = .ok (.astore_n 1, 1) := by decide +kernel
theorem d_Parser_startChip_55 : decode b_Parser_startChip 55 = .ok (.aload_n 0, 1) := by decide +kernel
theorem d_Parser_startChip_56 : decode b_Parser_startChip 56 = .ok (.getfield 10, 3) := by decide +kernel
theorem d_Parser_startChip_59 : decode b_Parser_startChip 59 = .ok (.aload_n 1, 1) := by decide +kernel
theorem d_Parser_startChip_60 : decode b_Parser_startChip 60 = .ok (.invokevirtual 71, 3) := by decide +kernel
theorem d_Parser_startChip_63 : decode b_Parser_startChip 63 = .ok (.pop, 1) := by decide +kernel
theorem d_Parser_startChip_64 : decode b_Parser_startChip 64 = .ok (.aload_n 0, 1) := by decide +kernel
theorem d_Parser_startChip_65 : decode b_Parser_startChip 65 = .ok (.bipush 123, 2) := by decide +kernel
theorem d_Parser_startChip_67 : decode b_Parser_startChip 67 = .ok (.invokevirtual 43, 3) := by decide +kernel
theorem d_Parser_startChip_70 : decode b_Parser_startChip 70 = .ok (.ifCond .eq 7, 3) := by decide +kernel
theorem d_Parser_startChip_73 : decode b_Parser_startChip 73 = .ok (.aload_n 1, 1) := by decide +kernel
theorem d_Parser_startChip_74 : decode b_Parser_startChip 74 = .ok (.goto 4, 3) := by decide +kernel
theorem d_Parser_startChip_77 : decode b_Parser_startChip 77 = .ok (.aconst_null, 1) := by decide +kernel
theorem d_Parser_startChip_78 : decode b_Parser_startChip 78 = .ok (.areturn, 1) := by decide +kernel
set_option maxHeartbeats 4000000 in
set_option maxRecDepth 100000 in
/-- startChip() -/
theorem p_Parser_startChip (l : Launch) (dC : Nat → ClassId) (dI : Nat → Nat → Nat) (cB cI cL cZ cC cO : ClassId) (qp qc qt qf qk ql qn qh qe : Nat) {w0 w1 : Value} (fk : Nat → Int32) (pp nn : Nat → Nat) (fh fl : Nat → Int64) {L : List Nat} {G : PG} (a : Nat) (xs : List Nat) (v0 v1 : Value) (t0 sz : Nat) (hL : gL L G) (ha0 : a ≤ 1000) (hk3 : ¬ fk 1000 = nI 3) (h : LSx t0 G qc xs) (hlen : xs.length ≤ 100) : Met l y_Parser_startChip w_Parser_startChip ({ frames := 9, cells := 6, slots := 621, locals := 560 }) (va_Pc [.ref qp] (wB2 (dC, dI) cl [(cB, .byte), (cI, .int), (cL, .long), (cZ, .boolean), (cC, .char), (cO, .object "java/lang/Object")] sz t0 ([(qp, .inr (3, [.ref qc, .ref qt, .ref qf, .int (nI a)])), (qt, .inr (1, [w0, w1, .ref qk, .ref ql, .ref qn, .ref qh, .ref qe])), (qk, .inl (cI, 1001, .inl fk)), (ql, .inl (cI, 1001, .inl (nF pp))), (qn, .inl (cI, 1001, .inl (nF nn))), (qh, .inl (cL, 1001, .inr (.inl fh))), (qe, .inl (cL, 1001, .inr (.inl fl))), (qf, .inr (2, [v0, v1]))] ++ va_pl L (gE cO G)))) (va_Qq (fun (r : Option Nat) (u : (Nat × Value × Value) × List Nat × PG) => u.1 = (sch fk pp (decide (xs.length < 8)) a v0 v1).2 ∧ (gL u.2.1 u.2.2 ∧ LF G u.2.2 qc ∧ ∃ ys, LSx t0 u.2.2 qc ys ∧ ys.length ≤ xs.length + 1) ∧ ((sch fk pp (decide (xs.length < 8)) a v0 v1).1 = false → r = none) ∧ ((sch fk pp (decide (xs.length < 8)) a v0 v1).1 = true → (∃ cc0 nm l1 l2 l3, r = some cc0 ∧ G.1 cc0 = 0 ∧ G.1 nm = 0 ∧ G.1 l1 = 0 ∧ G.1 l2 = 0 ∧ G.1 l3 = 0 ∧ isN u.2.2 nm (fh (a + 1)) (fl (a + 1)) (some (pp (a + 1))) ∧ isC u.2.2 cc0 nm 0 xs.length l1 l2 l3 0 ∧ (l1 ≠ l2 ∧ l1 ≠ l3 ∧ l2 ≠ l3) ∧ LSx t0 u.2.2 l1 [] ∧ LSx t0 u.2.2 l2 [] ∧ LSx t0 u.2.2 l3 [] ∧ LSx t0 u.2.2 qc (xs ++ [cc0]) ∧ gL u.2.1 u.2.2 ∧ LF G u.2.2 qc))) (fun u t => wA (dC, dI) cl [(cB, .byte), (cI, .int), (cL, .long), (cZ, .boolean), (cC, .char), (cO, .object "java/lang/Object")] (va_A ([(qp, .inr (3, [.ref qc, .ref qt, .ref qf, .int (nI a)])), (qt, .inr (1, [w0, w1, .ref qk, .ref ql, .ref qn, .ref qh, .ref qe])), (qk, .inl (cI, 1001, .inl fk)), (ql, .inl (cI, 1001, .inl (nF pp))), (qn, .inl (cI, 1001, .inl (nF nn))), (qh, .inl (cL, 1001, .inr (.inl fh))), (qe, .inl (cL, 1001, .inr (.inl fl))), (qf, .inr (2, [v0, v1]))] ++ va_pl L (gE cO G)) sz) ([(qp, .inr (3, [.ref qc, .ref qt, .ref qf, .int (nI u.1.1)])), (qt, .inr (1, [w0, w1, .ref qk, .ref ql, .ref qn, .ref qh, .ref qe])), (qk, .inl (cI, 1001, .inl fk)), (ql, .inl (cI, 1001, .inl (nF pp))), (qn, .inl (cI, 1001, .inl (nF nn))), (qh, .inl (cL, 1001, .inr (.inl fh))), (qe, .inl (cL, 1001, .inr (.inl fl))), (qf, .inr (2, [u.1.2.1, u.1.2.2]))] ++ va_pl u.2.1 (gE cO u.2.2)) t) (va_A ([(qp, .inr (3, [.ref qc, .ref qt, .ref qf, .int (nI a)])), (qt, .inr (1, [w0, w1, .ref qk, .ref ql, .ref qn, .ref qh, .ref qe])), (qk, .inl (cI, 1001, .inl fk)), (ql, .inl (cI, 1001, .inl (nF pp))), (qn, .inl (cI, 1001, .inl (nF nn))), (qh, .inl (cL, 1001, .inr (.inl fh))), (qe, .inl (cL, 1001, .inr (.inl fl))), (qf, .inr (2, [v0, v1]))] ++ va_pl L (gE cO G)) sz)) 6 621 (va_A ([(qp, .inr (3, [.ref qc, .ref qt, .ref qf, .int (nI a)])), (qt, .inr (1, [w0, w1, .ref qk, .ref ql, .ref qn, .ref qh, .ref qe])), (qk, .inl (cI, 1001, .inl fk)), (ql, .inl (cI, 1001, .inl (nF pp))), (qn, .inl (cI, 1001, .inl (nF nn))), (qh, .inl (cL, 1001, .inr (.inl fh))), (qe, .inl (cL, 1001, .inr (.inl fl))), (qf, .inr (2, [v0, v1]))] ++ va_pl L (gE cO G)) sz) := by
  refine Met.ofW (cc := b_Parser_startChip) (maxL := 2) (ret := (some (ClassFile.FieldType.object "ChipDesk$Chip"))) (by decide) rfl ?_
  intro p e s m args below meth c s₁ B hml hv
  obtain ⟨rfl, ⟨hsz, hP, hK, hD0, hF⟩, hE⟩ := hv
  have hx := B.exec
  have hb := B.bytes
  have hr := B.returns
  have hts := atoms_spec (ws := w_Parser_startChip) B.pre
  have hts : ∀ w ∈ tb, w.before _ s = true := fun w h => hts w (List.mem_cons_of_mem _ h)
  have hown : s.vm.findClass R_Parser = some m.cls := findClass_of_methodNamed B.named
  have hlocks := B.notSynchronized
  subst hsz
  have hD := hD0.self (sz := s.heap.size)
  generalize hAe : va_A ([(qp, .inr (3, [.ref qc, .ref qt, .ref qf, .int (nI a)])), (qt, .inr (1, [w0, w1, .ref qk, .ref ql, .ref qn, .ref qh, .ref qe])), (qk, .inl (cI, 1001, .inl fk)), (ql, .inl (cI, 1001, .inl (nF pp))), (qn, .inl (cI, 1001, .inl (nF nn))), (qh, .inl (cL, 1001, .inr (.inl fh))), (qe, .inl (cL, 1001, .inr (.inl fl))), (qf, .inr (2, [v0, v1]))] ++ va_pl L (gE cO G)) s.heap.size = A at hD hF hE ⊢
  have hA : ∀ q : Nat, s.heap.size ≤ q → A q := fun q h => by rw [← hAe]; exact Or.inr h
  have hS : va_S A s.heap s.heap [] := va_S.rf
  have hP : va_P (dC, dI) cl ([(qp, .inr (3, [.ref qc, .ref qt, .ref qf, .int (nI a)])), (qt, .inr (1, [w0, w1, .ref qk, .ref ql, .ref qn, .ref qh, .ref qe])), (qk, .inl (cI, 1001, .inl fk)), (ql, .inl (cI, 1001, .inl (nF pp))), (qn, .inl (cI, 1001, .inl (nF nn))), (qh, .inl (cL, 1001, .inr (.inl fh))), (qe, .inl (cL, 1001, .inr (.inl fl))), (qf, .inr (2, [v0, v1]))] ++ va_pl L (gE cO G)) s.heap := hP
  have hl := lv_entry ([.ref qp]) (n := 2) (Nat.le_of_ble_eq_true rfl)
  rw [lg_entry_eq]
  generalize (lg_sl ([.ref qp]) ++ List.replicate (2 - (lg_sl ([.ref qp])).length) Slot.unset).toArray = ls at hl ⊢
  have hl : lv_has ls 2 [(0, .ref qp)] := hl
  refine lv_aload_n hx hb d_Parser_startChip_0 rfl (lv_at hl 0 rfl) ?_
  refine lv_bipush (v := nI 6) hx hb d_Parser_startChip_1 (by decide) ?_
  refine we_i (cx := [(qp, .inr (3, [.ref qc, .ref qt, .ref qf, .int (nI a)])), (qt, .inr (1, [w0, w1, .ref qk, .ref ql, .ref qn, .ref qh, .ref qe])), (qk, .inl (cI, 1001, .inl fk)), (ql, .inl (cI, 1001, .inl (nF pp))), (qf, .inr (2, [v0, v1]))]) (wr := [(qn, .inl (cI, 1001, .inl (nF nn))), (qh, .inl (cL, 1001, .inr (.inl fh))), (qe, .inl (cL, 1001, .inr (.inl fl)))]) (pl := va_pl L (gE cO G)) (va_runV (As := [.int (nI 6)]) (rest := []) ⟨hx, hb, hml, hown, hts⟩ (c_Parser_want l dC dI cB cI cL cZ cC cO qp qc qt qf qk ql v0 v1 fk (nF pp) a (nI 6) _ (by omega)) (cwV 1 hts (good_V k_529 k_531 s_Parser_want k_4 k_532) rfl rfl rfl (by decide +kernel) ⟨Nat.le_of_ble_eq_true rfl, Nat.le_of_ble_eq_true rfl⟩) (wc_preV (k0 := 0) (ci := 3) (r := (R_Parser, F_Parser, 4)) hK hP hD hS hA hF [0, 1, 2, 3, 7] (by decide) rfl rfl rfl) rfl rfl hl.1 rfl (lv_room (Nat.le_of_ble_eq_true rfl)) d_Parser_startChip_3 ⟨Nat.le_of_ble_eq_true rfl, Nat.le_of_ble_eq_true rfl⟩) hP hD hS hA [0, 1, 2, 3, 7] [4, 5, 6] rfl rfl (by decide) (by decide) (fun r_4 u_2 H locs w_3 hP hD hS => ?_)
  have hP : va_P (dC, dI) cl ([(qn, .inl (cI, 1001, .inl (nF nn))), (qh, .inl (cL, 1001, .inr (.inl fh))), (qe, .inl (cL, 1001, .inr (.inl fl))), (qp, .inr (3, [.ref qc, .ref qt, .ref qf, .int (nI u_2.1)])), (qt, .inr (1, [w0, w1, .ref qk, .ref ql, .ref qn, .ref qh, .ref qe])), (qk, .inl (cI, 1001, .inl fk)), (ql, .inl (cI, 1001, .inl (nF pp))), (qf, .inr (2, [u_2.2.1, u_2.2.2]))] ++ va_pl L (gE cO G)) H := hP
  have hD : va_D A ([(qn, .inl (cI, 1001, .inl (nF nn))), (qh, .inl (cL, 1001, .inr (.inl fh))), (qe, .inl (cL, 1001, .inr (.inl fl))), (qp, .inr (3, [.ref qc, .ref qt, .ref qf, .int (nI u_2.1)])), (qt, .inr (1, [w0, w1, .ref qk, .ref ql, .ref qn, .ref qh, .ref qe])), (qk, .inl (cI, 1001, .inl fk)), (ql, .inl (cI, 1001, .inl (nF pp))), (qf, .inr (2, [u_2.2.1, u_2.2.2]))] ++ va_pl L (gE cO G)) := hD
  obtain ⟨r_4e, u_2e⟩ := w_3
  subst r_4e
  by_cases tk_1 : wt_ok fk a (nI 6) = true
  · rw [wt_T tk_1] at u_2e
    subst u_2e
    have hb_tk_1 : a < 1000 := wt_lt tk_1
    have hP : va_P (dC, dI) cl ([(qn, .inl (cI, 1001, .inl (nF nn))), (qh, .inl (cL, 1001, .inr (.inl fh))), (qe, .inl (cL, 1001, .inr (.inl fl))), (qp, .inr (3, [.ref qc, .ref qt, .ref qf, .int (nI (a + 1))])), (qt, .inr (1, [w0, w1, .ref qk, .ref ql, .ref qn, .ref qh, .ref qe])), (qk, .inl (cI, 1001, .inl fk)), (ql, .inl (cI, 1001, .inl (nF pp))), (qf, .inr (2, [v0, v1]))] ++ va_pl L (gE cO G)) H := hP
    have hD : va_D A ([(qn, .inl (cI, 1001, .inl (nF nn))), (qh, .inl (cL, 1001, .inr (.inl fh))), (qe, .inl (cL, 1001, .inr (.inl fl))), (qp, .inr (3, [.ref qc, .ref qt, .ref qf, .int (nI (a + 1))])), (qt, .inr (1, [w0, w1, .ref qk, .ref ql, .ref qn, .ref qh, .ref qe])), (qk, .inl (cI, 1001, .inl fk)), (ql, .inl (cI, 1001, .inl (nF pp))), (qf, .inr (2, [v0, v1]))] ++ va_pl L (gE cO G)) := hD
    refine nv_bif_eq (tgt := 33) hx hb d_Parser_startChip_6 (by decide) (fun c_5 => ?_) (fun c_5 => ?_)
    · exact absurd (tk_1.symm.trans c_5) (by decide)
    · refine lv_aload_n hx hb d_Parser_startChip_9 rfl (lv_at hl 0 rfl) ?_
      refine lv_aload_n hx hb d_Parser_startChip_10 rfl (lv_at hl 0 rfl) ?_
      refine va_get (D := (dC, dI)) (ci := 3) (v := .ref qc) (C := R_Parser) (T := F_Parser) (N := 4) hx hb hts i_Parser hown hK hP 3 rfl rfl 0 (by decide) (hts _ k_115) (fun _ h9 => h9) rfl d_Parser_startChip_11 ?_
      refine wd_i (cx := []) (wr := [(qn, .inl (cI, 1001, .inl (nF nn))), (qh, .inl (cL, 1001, .inr (.inl fh))), (qe, .inl (cL, 1001, .inr (.inl fl))), (qp, .inr (3, [.ref qc, .ref qt, .ref qf, .int (nI (a + 1))])), (qt, .inr (1, [w0, w1, .ref qk, .ref ql, .ref qn, .ref qh, .ref qe])), (qk, .inl (cI, 1001, .inl fk)), (ql, .inl (cI, 1001, .inl (nF pp))), (qf, .inr (2, [v0, v1]))]) (pl := va_pl L (gE cO G)) (va_runV (As := []) (rest := [.ref qp]) ⟨hx, hb, hml, hown, hts⟩ (p_List_size l dC dI cB cI cL cZ cC cO (G := G) qc t0 _ hL h.k.1) (cwV 0 hts (good_V k_537 k_325 k_326 k_7 k_327) rfl rfl rfl (by decide +kernel) ⟨Nat.le_of_ble_eq_true rfl, Nat.le_of_ble_eq_true rfl⟩) (wd_preV (ci := 4) (r := (R_List, F_List, 3)) hK hP hD hS hA hF hE [] (by decide) rfl rfl (pq_at (gL_m hL h.k.1 (by decide)) (gE_7 (G := G) h.k.1))) rfl rfl hl.1 rfl (lv_room (Nat.le_of_ble_eq_true rfl)) d_Parser_startChip_14 ⟨Nat.le_of_ble_eq_true rfl, Nat.le_of_ble_eq_true rfl⟩) hP hD hS hA [] [0, 1, 2, 3, 4, 5, 6, 7] rfl rfl (by decide) (by decide) (fun r_7 _ H locs w_6 hP hD hS => ?_)
      have hP : va_P (dC, dI) cl ([(qn, .inl (cI, 1001, .inl (nF nn))), (qh, .inl (cL, 1001, .inr (.inl fh))), (qe, .inl (cL, 1001, .inr (.inl fl))), (qp, .inr (3, [.ref qc, .ref qt, .ref qf, .int (nI (a + 1))])), (qt, .inr (1, [w0, w1, .ref qk, .ref ql, .ref qn, .ref qh, .ref qe])), (qk, .inl (cI, 1001, .inl fk)), (ql, .inl (cI, 1001, .inl (nF pp))), (qf, .inr (2, [v0, v1]))] ++ va_pl L (gE cO G)) H := hP
      have hD : va_D A ([(qn, .inl (cI, 1001, .inl (nF nn))), (qh, .inl (cL, 1001, .inr (.inl fh))), (qe, .inl (cL, 1001, .inr (.inl fl))), (qp, .inr (3, [.ref qc, .ref qt, .ref qf, .int (nI (a + 1))])), (qt, .inr (1, [w0, w1, .ref qk, .ref ql, .ref qn, .ref qh, .ref qe])), (qk, .inl (cI, 1001, .inl fk)), (ql, .inl (cI, 1001, .inl (nF pp))), (qf, .inr (2, [v0, v1]))] ++ va_pl L (gE cO G)) := hD
      rw [h.k.2] at w_6
      subst w_6
      refine lv_bipush (v := nI 8) hx hb d_Parser_startChip_17 (by decide) ?_
      refine nv_icmp_ge (tgt := 26) hx hb (by omega) (by omega) d_Parser_startChip_19 (by decide) (fun c_8 => ?_) (fun c_8 => ?_)
      · refine lv_iconst (v := nI 0) hx hb d_Parser_startChip_26 (by decide) ?_
        refine we_i (cx := [(qp, .inr (3, [.ref qc, .ref qt, .ref qf, .int (nI (a + 1))])), (qt, .inr (1, [w0, w1, .ref qk, .ref ql, .ref qn, .ref qh, .ref qe])), (qk, .inl (cI, 1001, .inl fk)), (ql, .inl (cI, 1001, .inl (nF pp))), (qf, .inr (2, [v0, v1]))]) (wr := [(qn, .inl (cI, 1001, .inl (nF nn))), (qh, .inl (cL, 1001, .inr (.inl fh))), (qe, .inl (cL, 1001, .inr (.inl fl)))]) (pl := va_pl L (gE cO G)) (va_runV (As := [.int (nI 0)]) (rest := []) ⟨hx, hb, hml, hown, hts⟩ (c_Parser_wantNameWithRoom l dC dI cB cI cL cZ cC cO qp qc qt qf qk ql v0 v1 fk (nF pp) (a + 1) false _ (by omega)) (cwV 1 hts (good_V k_538 k_540 s_Parser_wantNameWithRoom k_4 k_541) rfl rfl rfl (by decide +kernel) ⟨Nat.le_of_ble_eq_true rfl, Nat.le_of_ble_eq_true rfl⟩) (wc_preV (k0 := 3) (ci := 3) (r := (R_Parser, F_Parser, 4)) hK hP hD hS hA hF [3, 4, 5, 6, 7] (by decide) rfl rfl rfl) rfl rfl hl.1 rfl (lv_room (Nat.le_of_ble_eq_true rfl)) d_Parser_startChip_27 ⟨Nat.le_of_ble_eq_true rfl, Nat.le_of_ble_eq_true rfl⟩) hP hD hS hA [3, 4, 5, 6, 7] [0, 1, 2] rfl rfl (by decide) (by decide) (fun r_12 u_10 H locs w_11 hP hD hS => ?_)
        have hP : va_P (dC, dI) cl ([(qn, .inl (cI, 1001, .inl (nF nn))), (qh, .inl (cL, 1001, .inr (.inl fh))), (qe, .inl (cL, 1001, .inr (.inl fl))), (qp, .inr (3, [.ref qc, .ref qt, .ref qf, .int (nI (a + 1))])), (qt, .inr (1, [w0, w1, .ref qk, .ref ql, .ref qn, .ref qh, .ref qe])), (qk, .inl (cI, 1001, .inl fk)), (ql, .inl (cI, 1001, .inl (nF pp))), (qf, .inr (2, [u_10.1, u_10.2]))] ++ va_pl L (gE cO G)) H := hP
        have hD : va_D A ([(qn, .inl (cI, 1001, .inl (nF nn))), (qh, .inl (cL, 1001, .inr (.inl fh))), (qe, .inl (cL, 1001, .inr (.inl fl))), (qp, .inr (3, [.ref qc, .ref qt, .ref qf, .int (nI (a + 1))])), (qt, .inr (1, [w0, w1, .ref qk, .ref ql, .ref qn, .ref qh, .ref qe])), (qk, .inl (cI, 1001, .inl fk)), (ql, .inl (cI, 1001, .inl (nF pp))), (qf, .inr (2, [u_10.1, u_10.2]))] ++ va_pl L (gE cO G)) := hD
        obtain ⟨r_12e, u_10e⟩ := w_11
        subst r_12e
        have tk_9 : wn_ok fk (a + 1) false = false := by unfold wn_ok; simp
        rw [wn_F tk_9] at u_10e
        subst u_10e
        have hP : va_P (dC, dI) cl ([(qn, .inl (cI, 1001, .inl (nF nn))), (qh, .inl (cL, 1001, .inr (.inl fh))), (qe, .inl (cL, 1001, .inr (.inl fl))), (qp, .inr (3, [.ref qc, .ref qt, .ref qf, .int (nI (a + 1))])), (qt, .inr (1, [w0, w1, .ref qk, .ref ql, .ref qn, .ref qh, .ref qe])), (qk, .inl (cI, 1001, .inl fk)), (ql, .inl (cI, 1001, .inl (nF pp))), (qf, .inr (2, [.int (if fk (a + 1) = nI 3 ∨ fk (a + 1) = nI 2 then nI 2 else nI 1), .int (nI (pp (a + 1)))]))] ++ va_pl L (gE cO G)) H := hP
        have hD : va_D A ([(qn, .inl (cI, 1001, .inl (nF nn))), (qh, .inl (cL, 1001, .inr (.inl fh))), (qe, .inl (cL, 1001, .inr (.inl fl))), (qp, .inr (3, [.ref qc, .ref qt, .ref qf, .int (nI (a + 1))])), (qt, .inr (1, [w0, w1, .ref qk, .ref ql, .ref qn, .ref qh, .ref qe])), (qk, .inl (cI, 1001, .inl fk)), (ql, .inl (cI, 1001, .inl (nF pp))), (qf, .inr (2, [.int (if fk (a + 1) = nI 3 ∨ fk (a + 1) = nI 2 then nI 2 else nI 1), .int (nI (pp (a + 1)))]))] ++ va_pl L (gE cO G)) := hD
        refine nv_bif_ne (tgt := 35) hx hb d_Parser_startChip_30 (by decide) (fun c_13 => ?_) (fun c_13 => ?_)
        · exact absurd (tk_9.symm.trans c_13) (by decide)
        · refine lv_null hx hb d_Parser_startChip_33 ?_
          have hX : (sch fk pp (decide (xs.length < 8)) a v0 v1) = (false, (a + 1, .int (if fk (a + 1) = nI 3 ∨ fk (a + 1) = nI 2 then nI 2 else nI 1), .int (nI (pp (a + 1))))) := by rw [show decide (xs.length < 8) = false from (by simp; omega)]; unfold sch; rw [if_pos tk_1, if_neg (by rw [tk_9]; decide), wn_F tk_9]
          refine W.widen (k := 6) (n := 621) (by omega) (by omega) ?_
          exact wr_q (r := none) hx hb hr ⟨_, rfl⟩ hlocks ((a + 1, .int (if fk (a + 1) = nI 3 ∨ fk (a + 1) = nI 2 then nI 2 else nI 1), .int (nI (pp (a + 1)))), L, G) ⟨by rw [hX], ⟨hL, fun b _ _ _ => gs.rf _ _, xs, h, by omega⟩, fun _ => rfl, fun q9 => by rw [hX] at q9; exact Bool.noConfusion q9⟩ hK (hP.part [3, 4, 5, 6, 0, 1, 2, 7] rfl) (hD.part [3, 4, 5, 6, 0, 1, 2, 7] (by decide) rfl) hS d_Parser_startChip_34
      · refine lv_iconst (v := nI 1) hx hb d_Parser_startChip_22 (by decide) ?_
        refine lv_goto (tgt := 27) hx hb d_Parser_startChip_23 (by decide) ?_
        refine we_i (cx := [(qp, .inr (3, [.ref qc, .ref qt, .ref qf, .int (nI (a + 1))])), (qt, .inr (1, [w0, w1, .ref qk, .ref ql, .ref qn, .ref qh, .ref qe])), (qk, .inl (cI, 1001, .inl fk)), (ql, .inl (cI, 1001, .inl (nF pp))), (qf, .inr (2, [v0, v1]))]) (wr := [(qn, .inl (cI, 1001, .inl (nF nn))), (qh, .inl (cL, 1001, .inr (.inl fh))), (qe, .inl (cL, 1001, .inr (.inl fl)))]) (pl := va_pl L (gE cO G)) (va_runV (As := [.int (nI 1)]) (rest := []) ⟨hx, hb, hml, hown, hts⟩ (c_Parser_wantNameWithRoom l dC dI cB cI cL cZ cC cO qp qc qt qf qk ql v0 v1 fk (nF pp) (a + 1) true _ (by omega)) (cwV 1 hts (good_V k_538 k_540 s_Parser_wantNameWithRoom k_4 k_541) rfl rfl rfl (by decide +kernel) ⟨Nat.le_of_ble_eq_true rfl, Nat.le_of_ble_eq_true rfl⟩) (wc_preV (k0 := 3) (ci := 3) (r := (R_Parser, F_Parser, 4)) hK hP hD hS hA hF [3, 4, 5, 6, 7] (by decide) rfl rfl rfl) rfl rfl hl.1 rfl (lv_room (Nat.le_of_ble_eq_true rfl)) d_Parser_startChip_27 ⟨Nat.le_of_ble_eq_true rfl, Nat.le_of_ble_eq_true rfl⟩) hP hD hS hA [3, 4, 5, 6, 7] [0, 1, 2] rfl rfl (by decide) (by decide) (fun r_17 u_15 H locs w_16 hP hD hS => ?_)
        have hP : va_P (dC, dI) cl ([(qn, .inl (cI, 1001, .inl (nF nn))), (qh, .inl (cL, 1001, .inr (.inl fh))), (qe, .inl (cL, 1001, .inr (.inl fl))), (qp, .inr (3, [.ref qc, .ref qt, .ref qf, .int (nI (a + 1))])), (qt, .inr (1, [w0, w1, .ref qk, .ref ql, .ref qn, .ref qh, .ref qe])), (qk, .inl (cI, 1001, .inl fk)), (ql, .inl (cI, 1001, .inl (nF pp))), (qf, .inr (2, [u_15.1, u_15.2]))] ++ va_pl L (gE cO G)) H := hP
        have hD : va_D A ([(qn, .inl (cI, 1001, .inl (nF nn))), (qh, .inl (cL, 1001, .inr (.inl fh))), (qe, .inl (cL, 1001, .inr (.inl fl))), (qp, .inr (3, [.ref qc, .ref qt, .ref qf, .int (nI (a + 1))])), (qt, .inr (1, [w0, w1, .ref qk, .ref ql, .ref qn, .ref qh, .ref qe])), (qk, .inl (cI, 1001, .inl fk)), (ql, .inl (cI, 1001, .inl (nF pp))), (qf, .inr (2, [u_15.1, u_15.2]))] ++ va_pl L (gE cO G)) := hD
        obtain ⟨r_17e, u_15e⟩ := w_16
        subst r_17e
        by_cases tk_14 : wn_ok fk (a + 1) true = true
        · rw [wn_T tk_14] at u_15e
          subst u_15e
          have hb_tk_14 : (a + 1) < 1000 := wn_lt hk3 (by omega) tk_14
          have hP : va_P (dC, dI) cl ([(qn, .inl (cI, 1001, .inl (nF nn))), (qh, .inl (cL, 1001, .inr (.inl fh))), (qe, .inl (cL, 1001, .inr (.inl fl))), (qp, .inr (3, [.ref qc, .ref qt, .ref qf, .int (nI (a + 1))])), (qt, .inr (1, [w0, w1, .ref qk, .ref ql, .ref qn, .ref qh, .ref qe])), (qk, .inl (cI, 1001, .inl fk)), (ql, .inl (cI, 1001, .inl (nF pp))), (qf, .inr (2, [v0, v1]))] ++ va_pl L (gE cO G)) H := hP
          have hD : va_D A ([(qn, .inl (cI, 1001, .inl (nF nn))), (qh, .inl (cL, 1001, .inr (.inl fh))), (qe, .inl (cL, 1001, .inr (.inl fl))), (qp, .inr (3, [.ref qc, .ref qt, .ref qf, .int (nI (a + 1))])), (qt, .inr (1, [w0, w1, .ref qk, .ref ql, .ref qn, .ref qh, .ref qe])), (qk, .inl (cI, 1001, .inl fk)), (ql, .inl (cI, 1001, .inl (nF pp))), (qf, .inr (2, [v0, v1]))] ++ va_pl L (gE cO G)) := hD
          refine nv_bif_ne (tgt := 35) hx hb d_Parser_startChip_30 (by decide) (fun c_18 => ?_) (fun c_18 => ?_)
          · refine pq_new (ci := 6) (fs := [.null, .int (nI 0), .int (nI 0), .null, .null, .null, .int (nI 0), .int (nI 0), .int (nI 0)]) (C := R_Chip) (T := F_Chip) (N := 9) (fn := fun q9 => gE cO (g0 G q9 6)) hx hb hts i_Chip t_Chip t_Chip_ok hown (hts _ k_542) (hts _ k_139) (hts _ k_9) hK hP hD hS hA rfl (fun j hj => by rcases (show j = 0 ∨ j = 1 ∨ j = 2 ∨ j = 3 ∨ j = 4 ∨ j = 5 ∨ j = 6 ∨ j = 7 ∨ j = 8 by omega) with rfl | rfl | rfl | rfl | rfl | rfl | rfl | rfl | rfl <;> rfl) (Nat.le_of_ble_eq_true rfl) (Nat.le_of_ble_eq_true rfl) (fun q9 => nE_6 (G := G) q9) d_Parser_startChip_35 (fun q_19 H nq_19 hP hD hS => ?_)
            have kf_20 : (g0 G q_19 6).1 qc = 7 := (g0_k hL h.k.1 (by decide) nq_19)
            have ne_21 : qc ≠ q_19 := g0_ne hL h.k.1 (by decide) nq_19
            have hL0 := hL
            have hz9 : G.1 q_19 = 0 := g0_n hL nq_19
            replace hL := gL_new (a := q_19) (n := 6) hL
            have hP : va_P (dC, dI) cl ([(qn, .inl (cI, 1001, .inl (nF nn))), (qh, .inl (cL, 1001, .inr (.inl fh))), (qe, .inl (cL, 1001, .inr (.inl fl))), (qp, .inr (3, [.ref qc, .ref qt, .ref qf, .int (nI (a + 1))])), (qt, .inr (1, [w0, w1, .ref qk, .ref ql, .ref qn, .ref qh, .ref qe])), (qk, .inl (cI, 1001, .inl fk)), (ql, .inl (cI, 1001, .inl (nF pp))), (qf, .inr (2, [v0, v1]))] ++ va_pl (L ++ [q_19]) (gE cO (g0 G q_19 6))) H := hP
            have hD : va_D A ([(qn, .inl (cI, 1001, .inl (nF nn))), (qh, .inl (cL, 1001, .inr (.inl fh))), (qe, .inl (cL, 1001, .inr (.inl fl))), (qp, .inr (3, [.ref qc, .ref qt, .ref qf, .int (nI (a + 1))])), (qt, .inr (1, [w0, w1, .ref qk, .ref ql, .ref qn, .ref qh, .ref qe])), (qk, .inl (cI, 1001, .inl fk)), (ql, .inl (cI, 1001, .inl (nF pp))), (qf, .inr (2, [v0, v1]))] ++ va_pl (L ++ [q_19]) (gE cO (g0 G q_19 6))) := hD
            refine lv_dup hx hb d_Parser_startChip_38 rfl ?_
            refine lv_aload_n hx hb d_Parser_startChip_39 rfl (lv_at hl 0 rfl) ?_
            refine we_q (cx := [(qp, .inr (3, [.ref qc, .ref qt, .ref qf, .int (nI (a + 1))])), (qt, .inr (1, [w0, w1, .ref qk, .ref ql, .ref qn, .ref qh, .ref qe])), (ql, .inl (cI, 1001, .inl (nF pp))), (qh, .inl (cL, 1001, .inr (.inl fh))), (qe, .inl (cL, 1001, .inr (.inl fl)))]) (wr := [(qn, .inl (cI, 1001, .inl (nF nn))), (qk, .inl (cI, 1001, .inl fk)), (qf, .inr (2, [v0, v1]))]) (pl := va_pl (L ++ [q_19]) (gE cO (g0 G q_19 6))) (va_runV (As := []) (rest := [.ref q_19, .ref q_19]) ⟨hx, hb, hml, hown, hts⟩ (c_Parser_takeName l dC dI cB cI cL cZ cC cO qp qt ql qh qe (nF pp) fh fl (a + 1) _ (by omega)) (cwV 0 hts (good_V k_543 k_545 s_Parser_takeName k_4 k_546) rfl rfl rfl (by decide +kernel) ⟨Nat.le_of_ble_eq_true rfl, Nat.le_of_ble_eq_true rfl⟩) (wc_preV (k0 := 3) (ci := 3) (r := (R_Parser, F_Parser, 4)) hK hP hD hS hA hF [3, 4, 6, 1, 2] (by decide) rfl rfl rfl) rfl rfl hl.1 rfl (lv_room (Nat.le_of_ble_eq_true rfl)) d_Parser_startChip_40 ⟨Nat.le_of_ble_eq_true rfl, Nat.le_of_ble_eq_true rfl⟩) hP hD hS hA [3, 4, 6, 1, 2] [0, 5, 7] rfl rfl (by decide) (by decide) (fun r_23 nm1 H locs w_22 hP hD hS => ?_)
            have hP : va_P (dC, dI) cl ([(qn, .inl (cI, 1001, .inl (nF nn))), (qk, .inl (cI, 1001, .inl fk)), (qf, .inr (2, [v0, v1])), (qp, .inr (3, [.ref qc, .ref qt, .ref qf, .int (nI (min (a + 1 + 1) 1000))])), (qt, .inr (1, [w0, w1, .ref qk, .ref ql, .ref qn, .ref qh, .ref qe])), (ql, .inl (cI, 1001, .inl (nF pp))), (qh, .inl (cL, 1001, .inr (.inl fh))), (qe, .inl (cL, 1001, .inr (.inl fl))), (nm1, .inr (7, [.long (fh (a + 1)), .long (fl (a + 1)), .int (nI (pp (a + 1)))]))] ++ va_pl (L ++ [q_19]) (gE cO (g0 G q_19 6))) H := hP
            have hD : va_D A ([(qn, .inl (cI, 1001, .inl (nF nn))), (qk, .inl (cI, 1001, .inl fk)), (qf, .inr (2, [v0, v1])), (qp, .inr (3, [.ref qc, .ref qt, .ref qf, .int (nI (min (a + 1 + 1) 1000))])), (qt, .inr (1, [w0, w1, .ref qk, .ref ql, .ref qn, .ref qh, .ref qe])), (ql, .inl (cI, 1001, .inl (nF pp))), (qh, .inl (cL, 1001, .inr (.inl fh))), (qe, .inl (cL, 1001, .inr (.inl fl))), (nm1, .inr (7, [.long (fh (a + 1)), .long (fl (a + 1)), .int (nI (pp (a + 1)))]))] ++ va_pl (L ++ [q_19]) (gE cO (g0 G q_19 6))) := hD
            subst w_22
            obtain ⟨nnm1, hP, hD⟩ := pq_in (X := [(qn, .inl (cI, 1001, .inl (nF nn))), (qk, .inl (cI, 1001, .inl fk)), (qf, .inr (2, [v0, v1])), (qp, .inr (3, [.ref qc, .ref qt, .ref qf, .int (nI (min (a + 1 + 1) 1000))])), (qt, .inr (1, [w0, w1, .ref qk, .ref ql, .ref qn, .ref qh, .ref qe])), (ql, .inl (cI, 1001, .inl (nF pp))), (qh, .inl (cL, 1001, .inr (.inl fh))), (qe, .inl (cL, 1001, .inr (.inl fl)))]) hP hD
            have hP : va_P (dC, dI) cl ([(qn, .inl (cI, 1001, .inl (nF nn))), (qk, .inl (cI, 1001, .inl fk)), (qf, .inr (2, [v0, v1])), (qp, .inr (3, [.ref qc, .ref qt, .ref qf, .int (nI (min (a + 1 + 1) 1000))])), (qt, .inr (1, [w0, w1, .ref qk, .ref ql, .ref qn, .ref qh, .ref qe])), (ql, .inl (cI, 1001, .inl (nF pp))), (qh, .inl (cL, 1001, .inr (.inl fh))), (qe, .inl (cL, 1001, .inr (.inl fl)))] ++ va_pl (L ++ [q_19] ++ [nm1]) (gE cO (nam (g0 G q_19 6) nm1 (fh (a + 1)) (fl (a + 1)) (some (pp (a + 1)))))) H := by rw [← namE]; exact hP
            have hD : va_D A ([(qn, .inl (cI, 1001, .inl (nF nn))), (qk, .inl (cI, 1001, .inl fk)), (qf, .inr (2, [v0, v1])), (qp, .inr (3, [.ref qc, .ref qt, .ref qf, .int (nI (min (a + 1 + 1) 1000))])), (qt, .inr (1, [w0, w1, .ref qk, .ref ql, .ref qn, .ref qh, .ref qe])), (ql, .inl (cI, 1001, .inl (nF pp))), (qh, .inl (cL, 1001, .inr (.inl fh))), (qe, .inl (cL, 1001, .inr (.inl fl)))] ++ va_pl (L ++ [q_19] ++ [nm1]) (gE cO (nam (g0 G q_19 6) nm1 (fh (a + 1)) (fl (a + 1)) (some (pp (a + 1)))))) := by rw [← namE]; exact hD
            obtain ⟨z11, z12, z13⟩ := isN_new (q := nm1) (hh := fh (a + 1)) (tt := fl (a + 1)) (pl := some (pp (a + 1))) hL
            have hq1 : (g0 G q_19 6).1 nm1 = 0 := g0_n hL nnm1
            generalize nam (g0 G q_19 6) nm1 (fh (a + 1)) (fl (a + 1)) (some (pp (a + 1))) = G1 at hP hD z11 z12 z13
            have hL := z12
            rw [show min (a + 1 + 1) 1000 = a + 1 + 1 by omega] at hP hD
            have hP : va_P (dC, dI) cl ([(qn, .inl (cI, 1001, .inl (nF nn))), (qk, .inl (cI, 1001, .inl fk)), (qf, .inr (2, [v0, v1])), (qp, .inr (3, [.ref qc, .ref qt, .ref qf, .int (nI ((a + 1) + 1))])), (qt, .inr (1, [w0, w1, .ref qk, .ref ql, .ref qn, .ref qh, .ref qe])), (ql, .inl (cI, 1001, .inl (nF pp))), (qh, .inl (cL, 1001, .inr (.inl fh))), (qe, .inl (cL, 1001, .inr (.inl fl)))] ++ va_pl (L ++ [q_19] ++ [nm1]) (gE cO G1)) H := hP
            have hD : va_D A ([(qn, .inl (cI, 1001, .inl (nF nn))), (qk, .inl (cI, 1001, .inl fk)), (qf, .inr (2, [v0, v1])), (qp, .inr (3, [.ref qc, .ref qt, .ref qf, .int (nI ((a + 1) + 1))])), (qt, .inr (1, [w0, w1, .ref qk, .ref ql, .ref qn, .ref qh, .ref qe])), (ql, .inl (cI, 1001, .inl (nF pp))), (qh, .inl (cL, 1001, .inr (.inl fh))), (qe, .inl (cL, 1001, .inr (.inl fl)))] ++ va_pl (L ++ [q_19] ++ [nm1]) (gE cO G1)) := hD
            have kf_24 : G1.1 qc = 7 := (z13 qc (fun e9 => absurd ((kf_20).symm.trans ((congrArg (g0 G q_19 6).1 e9).trans hq1)) (by decide))).1.trans kf_20
            have kf_25 : G1.1 q_19 = 6 := (z13 q_19 (fun e9 => absurd (((g0_q G q_19 6)).symm.trans ((congrArg (g0 G q_19 6).1 e9).trans hq1)) (by decide))).1.trans (g0_q G q_19 6)
            have hcn : q_19 ≠ nm1 := fun e9 => absurd (kf_25.symm.trans ((congrArg G1.1 e9).trans z11.1)) (by decide)
            have hc0 : G.1 q_19 = 0 := g0_n hL0 nq_19
            have hn0 : G.1 nm1 = 0 := by have q9 := hq1; rw [(gs_0 (Ne.symm hcn)).1] at q9; exact q9
            have yo : ∀ b, G.1 b ≠ 0 → gs G G1 b := fun b hb9 => (gs_0 (fun e9 => hb9 (by rw [e9]; exact hc0))).tr (z13 b (fun e9 => hb9 (by rw [e9]; exact hn0)))
            have h1 : LSx t0 G1 qc xs := LSx_of h (fun b hb9 => yo b (by rcases hb9 with q9 | q9; (rw [q9, h.k.1]; decide); (have := q9.1; omega))) (fun x hx => (yo x (by have := LSx_el h x hx; omega)).1)
            refine lv_iconst (v := nI 0) hx hb d_Parser_startChip_43 (by decide) ?_
            refine lv_aload_n hx hb d_Parser_startChip_44 rfl (lv_at hl 0 rfl) ?_
            refine va_get (D := (dC, dI)) (ci := 3) (v := .ref qc) (C := R_Parser) (T := F_Parser) (N := 4) hx hb hts i_Parser hown hK hP 3 rfl rfl 0 (by decide) (hts _ k_115) (fun _ h9 => h9) rfl d_Parser_startChip_45 ?_
            refine wd_i (cx := []) (wr := [(qn, .inl (cI, 1001, .inl (nF nn))), (qk, .inl (cI, 1001, .inl fk)), (qf, .inr (2, [v0, v1])), (qp, .inr (3, [.ref qc, .ref qt, .ref qf, .int (nI ((a + 1) + 1))])), (qt, .inr (1, [w0, w1, .ref qk, .ref ql, .ref qn, .ref qh, .ref qe])), (ql, .inl (cI, 1001, .inl (nF pp))), (qh, .inl (cL, 1001, .inr (.inl fh))), (qe, .inl (cL, 1001, .inr (.inl fl)))]) (pl := va_pl (L ++ [q_19] ++ [nm1]) (gE cO G1)) (va_runV (As := []) (rest := [.int (nI 0), .ref nm1, .ref q_19, .ref q_19]) ⟨hx, hb, hml, hown, hts⟩ (p_List_size l dC dI cB cI cL cZ cC cO (G := G1) qc t0 _ hL h1.k.1) (cwV 0 hts (good_V k_537 k_325 k_326 k_7 k_327) rfl rfl rfl (by decide +kernel) ⟨Nat.le_of_ble_eq_true rfl, Nat.le_of_ble_eq_true rfl⟩) (wd_preV (ci := 4) (r := (R_List, F_List, 3)) hK hP hD hS hA hF hE [] (by decide) rfl rfl (pq_at (gL_m hL h1.k.1 (by decide)) (gE_7 (G := G1) h1.k.1))) rfl rfl hl.1 rfl (lv_room (Nat.le_of_ble_eq_true rfl)) d_Parser_startChip_48 ⟨Nat.le_of_ble_eq_true rfl, Nat.le_of_ble_eq_true rfl⟩) hP hD hS hA [] [0, 1, 2, 3, 4, 5, 6, 7] rfl rfl (by decide) (by decide) (fun r_27 _ H locs w_26 hP hD hS => ?_)
            have hP : va_P (dC, dI) cl ([(qn, .inl (cI, 1001, .inl (nF nn))), (qk, .inl (cI, 1001, .inl fk)), (qf, .inr (2, [v0, v1])), (qp, .inr (3, [.ref qc, .ref qt, .ref qf, .int (nI ((a + 1) + 1))])), (qt, .inr (1, [w0, w1, .ref qk, .ref ql, .ref qn, .ref qh, .ref qe])), (ql, .inl (cI, 1001, .inl (nF pp))), (qh, .inl (cL, 1001, .inr (.inl fh))), (qe, .inl (cL, 1001, .inr (.inl fl)))] ++ va_pl (L ++ [q_19] ++ [nm1]) (gE cO G1)) H := hP
            have hD : va_D A ([(qn, .inl (cI, 1001, .inl (nF nn))), (qk, .inl (cI, 1001, .inl fk)), (qf, .inr (2, [v0, v1])), (qp, .inr (3, [.ref qc, .ref qt, .ref qf, .int (nI ((a + 1) + 1))])), (qt, .inr (1, [w0, w1, .ref qk, .ref ql, .ref qn, .ref qh, .ref qe])), (ql, .inl (cI, 1001, .inl (nF pp))), (qh, .inl (cL, 1001, .inr (.inl fh))), (qe, .inl (cL, 1001, .inr (.inl fl)))] ++ va_pl (L ++ [q_19] ++ [nm1]) (gE cO G1)) := hD
            rw [h1.k.2] at w_26
            subst w_26
            refine wd_v (cx := []) (wr := [(qn, .inl (cI, 1001, .inl (nF nn))), (qk, .inl (cI, 1001, .inl fk)), (qf, .inr (2, [v0, v1])), (qp, .inr (3, [.ref qc, .ref qt, .ref qf, .int (nI ((a + 1) + 1))])), (qt, .inr (1, [w0, w1, .ref qk, .ref ql, .ref qn, .ref qh, .ref qe])), (ql, .inl (cI, 1001, .inl (nF pp))), (qh, .inl (cL, 1001, .inr (.inl fh))), (qe, .inl (cL, 1001, .inr (.inl fl)))]) (pl := va_pl (L ++ [q_19] ++ [nm1]) (gE cO G1)) (va_runI (As := [.ref nm1, .int (nI 0), .int (nI xs.length)]) (rest := [.ref q_19]) ⟨hx, hb, hml, hown, hts⟩ (p_Chip_init l dC dI cB cI cL cZ cC cO (G := G1) q_19 nm1 0 xs.length t0 _ hL kf_25) (cwI 3 hts (good_c k_161) rfl rfl rfl (hts _ k_9) (hts _ k_550) (hts _ k_160) rfl (by decide +kernel) ⟨Nat.le_of_ble_eq_true rfl, Nat.le_of_ble_eq_true rfl⟩) (wd_preS hK hP hD hS hA hF hE [] (by decide) rfl) rfl rfl hl.1 rfl (lv_room (Nat.le_of_ble_eq_true rfl)) d_Parser_startChip_51 ⟨Nat.le_of_ble_eq_true rfl, Nat.le_of_ble_eq_true rfl⟩) hP hD hS hA [] [0, 1, 2, 3, 4, 5, 6, 7] rfl rfl (by decide) (by decide) (fun v9 H locs w_28 hP hD hS => ?_)
            have hP : va_P (dC, dI) cl ([(qn, .inl (cI, 1001, .inl (nF nn))), (qk, .inl (cI, 1001, .inl fk)), (qf, .inr (2, [v0, v1])), (qp, .inr (3, [.ref qc, .ref qt, .ref qf, .int (nI ((a + 1) + 1))])), (qt, .inr (1, [w0, w1, .ref qk, .ref ql, .ref qn, .ref qh, .ref qe])), (ql, .inl (cI, 1001, .inl (nF pp))), (qh, .inl (cL, 1001, .inr (.inl fh))), (qe, .inl (cL, 1001, .inr (.inl fl)))] ++ va_pl (L ++ [q_19] ++ [nm1] ++ [v9.1] ++ [v9.2.1] ++ [v9.2.2]) (gE cO (chp t0 G1 q_19 nm1 0 xs.length v9.1 v9.2.1 v9.2.2))) H := hP
            have hD : va_D A ([(qn, .inl (cI, 1001, .inl (nF nn))), (qk, .inl (cI, 1001, .inl fk)), (qf, .inr (2, [v0, v1])), (qp, .inr (3, [.ref qc, .ref qt, .ref qf, .int (nI ((a + 1) + 1))])), (qt, .inr (1, [w0, w1, .ref qk, .ref ql, .ref qn, .ref qh, .ref qe])), (ql, .inl (cI, 1001, .inl (nF pp))), (qh, .inl (cL, 1001, .inr (.inl fh))), (qe, .inl (cL, 1001, .inr (.inl fl)))] ++ va_pl (L ++ [q_19] ++ [nm1] ++ [v9.1] ++ [v9.2.1] ++ [v9.2.2]) (gE cO (chp t0 G1 q_19 nm1 0 xs.length v9.1 v9.2.1 v9.2.2))) := hD
            obtain ⟨p1, p2, p3⟩ := w_28
            obtain ⟨y1, y2, y3, y4, y5⟩ := isC_new (t0 := t0) (nm := nm1) (gt := 0) (ix := xs.length) hL kf_25 p1 p2 p3
            have k1 : G1.1 v9.1 = 0 := g0_n hL p1
            have k2 : G1.1 v9.2.1 = 0 := g0_n hL (fun q9 => p2 (List.mem_append_left _ q9))
            have k3 : G1.1 v9.2.2 = 0 := g0_n hL (fun q9 => p3 (List.mem_append_left _ (List.mem_append_left _ q9)))
            have y6 : ∀ b, b ≠ q_19 → G1.1 b ≠ 0 → gs G1 (chp t0 G1 q_19 nm1 0 xs.length v9.1 v9.2.1 v9.2.2) b := fun b e1 e2 => chp_gs e1 (fun e9 => e2 (by rw [e9]; exact k1)) (fun e9 => e2 (by rw [e9]; exact k2)) (fun e9 => e2 (by rw [e9]; exact k3))
            generalize chp t0 G1 q_19 nm1 0 xs.length v9.1 v9.2.1 v9.2.2 = G2 at hP hD y1 y2 y3 y4 y5 y6
            have hL := y5
            have yn : isN G2 nm1 (fh (a + 1)) (fl (a + 1)) (some (pp (a + 1))) := z11.keep (y6 nm1 (Ne.symm hcn) (by rw [z11.1]; decide))
            have yp : ∀ b, G.1 b ≠ 0 → gs G G2 b := fun b hb9 => (yo b hb9).tr (y6 b (fun e9 => hb9 (by rw [e9]; exact hc0)) (by rw [(yo b hb9).1]; exact hb9))
            have l2 : LSx t0 G2 qc xs := LSx_of h (fun b hb9 => yp b (by rcases hb9 with q9 | q9; (rw [q9, h.k.1]; decide); (have := q9.1; omega))) (fun x hx => (yp x (by have := LSx_el h x hx; omega)).1)
            refine lv_astore_n (lv' := [(1, .ref q_19), (0, .ref qp)]) hx hb d_Parser_startChip_54 rfl hl (by decide) rfl (fun ls hl => ?_)
            refine lv_aload_n hx hb d_Parser_startChip_55 rfl (lv_at hl 1 rfl) ?_
            refine va_get (D := (dC, dI)) (ci := 3) (v := .ref qc) (C := R_Parser) (T := F_Parser) (N := 4) hx hb hts i_Parser hown hK hP 3 rfl rfl 0 (by decide) (hts _ k_115) (fun _ h9 => h9) rfl d_Parser_startChip_56 ?_
            refine lv_aload_n hx hb d_Parser_startChip_59 rfl (lv_at hl 0 rfl) ?_
            refine wd_i (cx := []) (wr := [(qn, .inl (cI, 1001, .inl (nF nn))), (qk, .inl (cI, 1001, .inl fk)), (qf, .inr (2, [v0, v1])), (qp, .inr (3, [.ref qc, .ref qt, .ref qf, .int (nI ((a + 1) + 1))])), (qt, .inr (1, [w0, w1, .ref qk, .ref ql, .ref qn, .ref qh, .ref qe])), (ql, .inl (cI, 1001, .inl (nF pp))), (qh, .inl (cL, 1001, .inr (.inl fh))), (qe, .inl (cL, 1001, .inr (.inl fl)))]) (pl := va_pl (L ++ [q_19] ++ [nm1] ++ [v9.1] ++ [v9.2.1] ++ [v9.2.2]) (gE cO G2)) (va_runV (As := [.ref q_19]) (rest := []) ⟨hx, hb, hml, hown, hts⟩ (p_List_add l dC dI cB cI cL cZ cC cO (G := G2) qc q_19 xs t0 _ hL l2 (by rw [y1.1]; decide) (by omega)) (cwV 1 hts (good_V k_551 k_255 k_256 k_7 k_257) rfl rfl rfl (by decide +kernel) ⟨Nat.le_of_ble_eq_true rfl, Nat.le_of_ble_eq_true rfl⟩) (wd_preV (ci := 4) (r := (R_List, F_List, 3)) hK hP hD hS hA hF hE [] (by decide) rfl rfl (pq_at (gL_m hL l2.k.1 (by decide)) (gE_7 (G := G2) l2.k.1))) rfl rfl hl.1 rfl (lv_room (Nat.le_of_ble_eq_true rfl)) d_Parser_startChip_60 ⟨Nat.le_of_ble_eq_true rfl, Nat.le_of_ble_eq_true rfl⟩) hP hD hS hA [] [0, 1, 2, 3, 4, 5, 6, 7] rfl rfl (by decide) (by decide) (fun r_31 u H locs w_30 hP hD hS => ?_)
            have hP : va_P (dC, dI) cl ([(qn, .inl (cI, 1001, .inl (nF nn))), (qk, .inl (cI, 1001, .inl fk)), (qf, .inr (2, [v0, v1])), (qp, .inr (3, [.ref qc, .ref qt, .ref qf, .int (nI ((a + 1) + 1))])), (qt, .inr (1, [w0, w1, .ref qk, .ref ql, .ref qn, .ref qh, .ref qe])), (ql, .inl (cI, 1001, .inl (nF pp))), (qh, .inl (cL, 1001, .inr (.inl fh))), (qe, .inl (cL, 1001, .inr (.inl fl)))] ++ va_pl u.1 (gE cO u.2)) H := hP
            have hD : va_D A ([(qn, .inl (cI, 1001, .inl (nF nn))), (qk, .inl (cI, 1001, .inl fk)), (qf, .inr (2, [v0, v1])), (qp, .inr (3, [.ref qc, .ref qt, .ref qf, .int (nI ((a + 1) + 1))])), (qt, .inr (1, [w0, w1, .ref qk, .ref ql, .ref qn, .ref qh, .ref qe])), (ql, .inl (cI, 1001, .inl (nF pp))), (qh, .inl (cL, 1001, .inr (.inl fh))), (qe, .inl (cL, 1001, .inr (.inl fl)))] ++ va_pl u.1 (gE cO u.2)) := hD
            obtain ⟨r_31e, hu⟩ := w_30
            subst r_31e
            have hqc : G.1 qc = 7 := h.k.1
            have gc := hu.2.2.kd2 l2.k.1 (y := q_19) (by rw [y1.1]; decide)
            have gn := hu.2.2.kd2 l2.k.1 (y := nm1) (by rw [yn.1]; decide)
            have kc := gc.1.trans y1.1
            have m1 : G.1 v9.1 = 0 := by
              by_cases e9 : G.1 v9.1 = 0
              · exact e9
              · exact absurd ((yo v9.1 e9).1.symm.trans k1) e9
            have o1 : LSx t0 u.2 v9.1 [] := LS0.x y2 (hu.2.2 v9.1 (by rw [y2.1]; decide) (fun e9 => absurd (hqc.symm.trans ((congrArg G.1 e9.symm).trans m1)) (by decide)) (fun q9 => by have := q9.1; rw [y2.1] at this; omega))
            have m2 : G.1 v9.2.1 = 0 := by
              by_cases e9 : G.1 v9.2.1 = 0
              · exact e9
              · exact absurd ((yo v9.2.1 e9).1.symm.trans k2) e9
            have o2 : LSx t0 u.2 v9.2.1 [] := LS0.x y3 (hu.2.2 v9.2.1 (by rw [y3.1]; decide) (fun e9 => absurd (hqc.symm.trans ((congrArg G.1 e9.symm).trans m2)) (by decide)) (fun q9 => by have := q9.1; rw [y3.1] at this; omega))
            have m3 : G.1 v9.2.2 = 0 := by
              by_cases e9 : G.1 v9.2.2 = 0
              · exact e9
              · exact absurd ((yo v9.2.2 e9).1.symm.trans k3) e9
            have o3 : LSx t0 u.2 v9.2.2 [] := LS0.x y4 (hu.2.2 v9.2.2 (by rw [y4.1]; decide) (fun e9 => absurd (hqc.symm.trans ((congrArg G.1 e9.symm).trans m3)) (by decide)) (fun q9 => by have := q9.1; rw [y4.1] at this; omega))
            have b3 : LF G u.2 qc := fun b h1 h2 h4 => by
              have e1 := yp b h1
              exact e1.tr (hu.2.2 b (by rw [e1.1]; exact h1) h2 (by rw [e1.1, e1.2.1]; exact h4))
            have hL := hu.2.1
            refine lv_pop hx hb d_Parser_startChip_63 rfl ?_
            refine lv_aload_n hx hb d_Parser_startChip_64 rfl (lv_at hl 1 rfl) ?_
            refine lv_bipush (v := nI 123) hx hb d_Parser_startChip_65 (by decide) ?_
            refine we_i (cx := [(qp, .inr (3, [.ref qc, .ref qt, .ref qf, .int (nI ((a + 1) + 1))])), (qt, .inr (1, [w0, w1, .ref qk, .ref ql, .ref qn, .ref qh, .ref qe])), (qk, .inl (cI, 1001, .inl fk)), (ql, .inl (cI, 1001, .inl (nF pp))), (qf, .inr (2, [v0, v1]))]) (wr := [(qn, .inl (cI, 1001, .inl (nF nn))), (qh, .inl (cL, 1001, .inr (.inl fh))), (qe, .inl (cL, 1001, .inr (.inl fl)))]) (pl := va_pl u.1 (gE cO u.2)) (va_runV (As := [.int (nI 123)]) (rest := []) ⟨hx, hb, hml, hown, hts⟩ (c_Parser_want l dC dI cB cI cL cZ cC cO qp qc qt qf qk ql v0 v1 fk (nF pp) ((a + 1) + 1) (nI 123) _ (by omega)) (cwV 1 hts (good_V k_529 k_531 s_Parser_want k_4 k_532) rfl rfl rfl (by decide +kernel) ⟨Nat.le_of_ble_eq_true rfl, Nat.le_of_ble_eq_true rfl⟩) (wc_preV (k0 := 3) (ci := 3) (r := (R_Parser, F_Parser, 4)) hK hP hD hS hA hF [3, 4, 1, 5, 2] (by decide) rfl rfl rfl) rfl rfl hl.1 rfl (lv_room (Nat.le_of_ble_eq_true rfl)) d_Parser_startChip_67 ⟨Nat.le_of_ble_eq_true rfl, Nat.le_of_ble_eq_true rfl⟩) hP hD hS hA [3, 4, 1, 5, 2] [0, 6, 7] rfl rfl (by decide) (by decide) (fun r_35 u_33 H locs w_34 hP hD hS => ?_)
            have hP : va_P (dC, dI) cl ([(qn, .inl (cI, 1001, .inl (nF nn))), (qh, .inl (cL, 1001, .inr (.inl fh))), (qe, .inl (cL, 1001, .inr (.inl fl))), (qp, .inr (3, [.ref qc, .ref qt, .ref qf, .int (nI u_33.1)])), (qt, .inr (1, [w0, w1, .ref qk, .ref ql, .ref qn, .ref qh, .ref qe])), (qk, .inl (cI, 1001, .inl fk)), (ql, .inl (cI, 1001, .inl (nF pp))), (qf, .inr (2, [u_33.2.1, u_33.2.2]))] ++ va_pl u.1 (gE cO u.2)) H := hP
            have hD : va_D A ([(qn, .inl (cI, 1001, .inl (nF nn))), (qh, .inl (cL, 1001, .inr (.inl fh))), (qe, .inl (cL, 1001, .inr (.inl fl))), (qp, .inr (3, [.ref qc, .ref qt, .ref qf, .int (nI u_33.1)])), (qt, .inr (1, [w0, w1, .ref qk, .ref ql, .ref qn, .ref qh, .ref qe])), (qk, .inl (cI, 1001, .inl fk)), (ql, .inl (cI, 1001, .inl (nF pp))), (qf, .inr (2, [u_33.2.1, u_33.2.2]))] ++ va_pl u.1 (gE cO u.2)) := hD
            obtain ⟨r_35e, u_33e⟩ := w_34
            subst r_35e
            by_cases tk_32 : wt_ok fk ((a + 1) + 1) (nI 123) = true
            · rw [wt_T tk_32] at u_33e
              subst u_33e
              have hb_tk_32 : ((a + 1) + 1) < 1000 := wt_lt tk_32
              have hP : va_P (dC, dI) cl ([(qn, .inl (cI, 1001, .inl (nF nn))), (qh, .inl (cL, 1001, .inr (.inl fh))), (qe, .inl (cL, 1001, .inr (.inl fl))), (qp, .inr (3, [.ref qc, .ref qt, .ref qf, .int (nI (((a + 1) + 1) + 1))])), (qt, .inr (1, [w0, w1, .ref qk, .ref ql, .ref qn, .ref qh, .ref qe])), (qk, .inl (cI, 1001, .inl fk)), (ql, .inl (cI, 1001, .inl (nF pp))), (qf, .inr (2, [v0, v1]))] ++ va_pl u.1 (gE cO u.2)) H := hP
              have hD : va_D A ([(qn, .inl (cI, 1001, .inl (nF nn))), (qh, .inl (cL, 1001, .inr (.inl fh))), (qe, .inl (cL, 1001, .inr (.inl fl))), (qp, .inr (3, [.ref qc, .ref qt, .ref qf, .int (nI (((a + 1) + 1) + 1))])), (qt, .inr (1, [w0, w1, .ref qk, .ref ql, .ref qn, .ref qh, .ref qe])), (qk, .inl (cI, 1001, .inl fk)), (ql, .inl (cI, 1001, .inl (nF pp))), (qf, .inr (2, [v0, v1]))] ++ va_pl u.1 (gE cO u.2)) := hD
              refine nv_bif_eq (tgt := 77) hx hb d_Parser_startChip_70 (by decide) (fun c_36 => ?_) (fun c_36 => ?_)
              · exact absurd (tk_32.symm.trans c_36) (by decide)
              · refine lv_aload_n hx hb d_Parser_startChip_73 rfl (lv_at hl 0 rfl) ?_
                refine lv_goto (tgt := 78) hx hb d_Parser_startChip_74 (by decide) ?_
                have hX : (sch fk pp (decide (xs.length < 8)) a v0 v1) = (true, (((a + 1) + 1) + 1, v0, v1)) := by rw [show decide (xs.length < 8) = true from (by simp; omega)]; unfold sch; rw [if_pos tk_1, if_pos tk_14, wt_T tk_32, tk_32]
                refine W.widen (k := 6) (n := 621) (by omega) (by omega) ?_
                exact wr_q (r := some q_19) hx hb hr ⟨_, rfl⟩ hlocks ((((a + 1) + 1) + 1, v0, v1), u.1, u.2) ⟨by rw [hX], ⟨hu.2.1, b3, xs ++ [q_19], hu.1, by simp⟩, fun q9 => by rw [hX] at q9; exact Bool.noConfusion q9, fun _ => ⟨q_19, nm1, v9.1, v9.2.1, v9.2.2, rfl, hc0, hn0, m1, m2, m3, yn.keep gn, y1.keep gc, ⟨fun e9 => p2 (e9 ▸ List.mem_append_right _ (List.mem_singleton.mpr rfl)), fun e9 => p3 (e9 ▸ List.mem_append_left _ (List.mem_append_right _ (List.mem_singleton.mpr rfl))), fun e9 => p3 (e9 ▸ List.mem_append_right _ (List.mem_singleton.mpr rfl))⟩, o1, o2, o3, hu.1, hu.2.1, b3⟩⟩ hK (hP.part [3, 4, 5, 6, 0, 1, 2, 7] rfl) (hD.part [3, 4, 5, 6, 0, 1, 2, 7] (by decide) rfl) hS d_Parser_startChip_78
            · have tk_32 : wt_ok fk ((a + 1) + 1) (nI 123) = false := by simpa using tk_32
              rw [wt_F tk_32] at u_33e
              subst u_33e
              have hP : va_P (dC, dI) cl ([(qn, .inl (cI, 1001, .inl (nF nn))), (qh, .inl (cL, 1001, .inr (.inl fh))), (qe, .inl (cL, 1001, .inr (.inl fl))), (qp, .inr (3, [.ref qc, .ref qt, .ref qf, .int (nI ((a + 1) + 1))])), (qt, .inr (1, [w0, w1, .ref qk, .ref ql, .ref qn, .ref qh, .ref qe])), (qk, .inl (cI, 1001, .inl fk)), (ql, .inl (cI, 1001, .inl (nF pp))), (qf, .inr (2, [.int (if fk ((a + 1) + 1) = nI 2 then nI 2 else nI 1), .int (nI (pp ((a + 1) + 1)))]))] ++ va_pl u.1 (gE cO u.2)) H := hP
              have hD : va_D A ([(qn, .inl (cI, 1001, .inl (nF nn))), (qh, .inl (cL, 1001, .inr (.inl fh))), (qe, .inl (cL, 1001, .inr (.inl fl))), (qp, .inr (3, [.ref qc, .ref qt, .ref qf, .int (nI ((a + 1) + 1))])), (qt, .inr (1, [w0, w1, .ref qk, .ref ql, .ref qn, .ref qh, .ref qe])), (qk, .inl (cI, 1001, .inl fk)), (ql, .inl (cI, 1001, .inl (nF pp))), (qf, .inr (2, [.int (if fk ((a + 1) + 1) = nI 2 then nI 2 else nI 1), .int (nI (pp ((a + 1) + 1)))]))] ++ va_pl u.1 (gE cO u.2)) := hD
              refine nv_bif_eq (tgt := 77) hx hb d_Parser_startChip_70 (by decide) (fun c_37 => ?_) (fun c_37 => ?_)
              · refine lv_null hx hb d_Parser_startChip_77 ?_
                have hX : (sch fk pp (decide (xs.length < 8)) a v0 v1) = (false, ((a + 1) + 1, .int (if fk ((a + 1) + 1) = nI 2 then nI 2 else nI 1), .int (nI (pp ((a + 1) + 1))))) := by rw [show decide (xs.length < 8) = true from (by simp; omega)]; unfold sch; rw [if_pos tk_1, if_pos tk_14, wt_F tk_32, tk_32]
                refine W.widen (k := 6) (n := 621) (by omega) (by omega) ?_
                exact wr_q (r := none) hx hb hr ⟨_, rfl⟩ hlocks (((a + 1) + 1, .int (if fk ((a + 1) + 1) = nI 2 then nI 2 else nI 1), .int (nI (pp ((a + 1) + 1)))), u.1, u.2) ⟨by rw [hX], ⟨hu.2.1, b3, xs ++ [q_19], hu.1, by simp⟩, fun _ => rfl, fun q9 => by rw [hX] at q9; exact Bool.noConfusion q9⟩ hK (hP.part [3, 4, 5, 6, 0, 1, 2, 7] rfl) (hD.part [3, 4, 5, 6, 0, 1, 2, 7] (by decide) rfl) hS d_Parser_startChip_78
              · exact absurd (tk_32.symm.trans c_37) (by decide)
          · exact absurd (tk_14.symm.trans c_18) (by decide)
        · have tk_14 : wn_ok fk (a + 1) true = false := by simpa using tk_14
          rw [wn_F tk_14] at u_15e
          subst u_15e
          have hP : va_P (dC, dI) cl ([(qn, .inl (cI, 1001, .inl (nF nn))), (qh, .inl (cL, 1001, .inr (.inl fh))), (qe, .inl (cL, 1001, .inr (.inl fl))), (qp, .inr (3, [.ref qc, .ref qt, .ref qf, .int (nI (a + 1))])), (qt, .inr (1, [w0, w1, .ref qk, .ref ql, .ref qn, .ref qh, .ref qe])), (qk, .inl (cI, 1001, .inl fk)), (ql, .inl (cI, 1001, .inl (nF pp))), (qf, .inr (2, [.int (if fk (a + 1) = nI 3 ∨ fk (a + 1) = nI 2 then nI 2 else nI 1), .int (nI (pp (a + 1)))]))] ++ va_pl L (gE cO G)) H := hP
          have hD : va_D A ([(qn, .inl (cI, 1001, .inl (nF nn))), (qh, .inl (cL, 1001, .inr (.inl fh))), (qe, .inl (cL, 1001, .inr (.inl fl))), (qp, .inr (3, [.ref qc, .ref qt, .ref qf, .int (nI (a + 1))])), (qt, .inr (1, [w0, w1, .ref qk, .ref ql, .ref qn, .ref qh, .ref qe])), (qk, .inl (cI, 1001, .inl fk)), (ql, .inl (cI, 1001, .inl (nF pp))), (qf, .inr (2, [.int (if fk (a + 1) = nI 3 ∨ fk (a + 1) = nI 2 then nI 2 else nI 1), .int (nI (pp (a + 1)))]))] ++ va_pl L (gE cO G)) := hD
          refine nv_bif_ne (tgt := 35) hx hb d_Parser_startChip_30 (by decide) (fun c_38 => ?_) (fun c_38 => ?_)
          · exact absurd (tk_14.symm.trans c_38) (by decide)
          · refine lv_null hx hb d_Parser_startChip_33 ?_
            have hX : (sch fk pp (decide (xs.length < 8)) a v0 v1) = (false, (a + 1, .int (if fk (a + 1) = nI 3 ∨ fk (a + 1) = nI 2 then nI 2 else nI 1), .int (nI (pp (a + 1))))) := by rw [show decide (xs.length < 8) = true from (by simp; omega)]; unfold sch; rw [if_pos tk_1, if_neg (by rw [tk_14]; decide), wn_F tk_14]
            refine W.widen (k := 6) (n := 621) (by omega) (by omega) ?_
            exact wr_q (r := none) hx hb hr ⟨_, rfl⟩ hlocks ((a + 1, .int (if fk (a + 1) = nI 3 ∨ fk (a + 1) = nI 2 then nI 2 else nI 1), .int (nI (pp (a + 1)))), L, G) ⟨by rw [hX], ⟨hL, fun b _ _ _ => gs.rf _ _, xs, h, by omega⟩, fun _ => rfl, fun q9 => by rw [hX] at q9; exact Bool.noConfusion q9⟩ hK (hP.part [3, 4, 5, 6, 0, 1, 2, 7] rfl) (hD.part [3, 4, 5, 6, 0, 1, 2, 7] (by decide) rfl) hS d_Parser_startChip_34
  · have tk_1 : wt_ok fk a (nI 6) = false := by simpa using tk_1
    rw [wt_F tk_1] at u_2e
    subst u_2e
    have hP : va_P (dC, dI) cl ([(qn, .inl (cI, 1001, .inl (nF nn))), (qh, .inl (cL, 1001, .inr (.inl fh))), (qe, .inl (cL, 1001, .inr (.inl fl))), (qp, .inr (3, [.ref qc, .ref qt, .ref qf, .int (nI a)])), (qt, .inr (1, [w0, w1, .ref qk, .ref ql, .ref qn, .ref qh, .ref qe])), (qk, .inl (cI, 1001, .inl fk)), (ql, .inl (cI, 1001, .inl (nF pp))), (qf, .inr (2, [.int (if fk a = nI 2 then nI 2 else nI 1), .int (nI (pp a))]))] ++ va_pl L (gE cO G)) H := hP
    have hD : va_D A ([(qn, .inl (cI, 1001, .inl (nF nn))), (qh, .inl (cL, 1001, .inr (.inl fh))), (qe, .inl (cL, 1001, .inr (.inl fl))), (qp, .inr (3, [.ref qc, .ref qt, .ref qf, .int (nI a)])), (qt, .inr (1, [w0, w1, .ref qk, .ref ql, .ref qn, .ref qh, .ref qe])), (qk, .inl (cI, 1001, .inl fk)), (ql, .inl (cI, 1001, .inl (nF pp))), (qf, .inr (2, [.int (if fk a = nI 2 then nI 2 else nI 1), .int (nI (pp a))]))] ++ va_pl L (gE cO G)) := hD
    refine nv_bif_eq (tgt := 33) hx hb d_Parser_startChip_6 (by decide) (fun c_39 => ?_) (fun c_39 => ?_)
    · refine lv_null hx hb d_Parser_startChip_33 ?_
      have hX : (sch fk pp (decide (xs.length < 8)) a v0 v1) = (false, (a, .int (if fk a = nI 2 then nI 2 else nI 1), .int (nI (pp a)))) := by unfold sch; rw [if_neg (by rw [tk_1]; decide), wt_F tk_1]
      refine W.widen (k := 6) (n := 621) (by omega) (by omega) ?_
      exact wr_q (r := none) hx hb hr ⟨_, rfl⟩ hlocks ((a, .int (if fk a = nI 2 then nI 2 else nI 1), .int (nI (pp a))), L, G) ⟨by rw [hX], ⟨hL, fun b _ _ _ => gs.rf _ _, xs, h, by omega⟩, fun _ => rfl, fun q9 => by rw [hX] at q9; exact Bool.noConfusion q9⟩ hK (hP.part [3, 4, 5, 6, 0, 1, 2, 7] rfl) (hD.part [3, 4, 5, 6, 0, 1, 2, 7] (by decide) rfl) hS d_Parser_startChip_34
    · exact absurd (tk_1.symm.trans c_39) (by decide)
