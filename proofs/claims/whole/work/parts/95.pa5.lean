theorem d_Parser_parseLink_0 : decode b_Parser_parseLink 0 = .ok (.aload_n 0, 1) := by decide +kernel
theorem d_Parser_parseLink_1 : decode b_Parser_parseLink 1 = .ok (.iconst 1, 1) := by decide +kernel
theorem d_Parser_parseLink_2 : decode b_Parser_parseLink 2 = .ok (.invokevirtual 58, 3) := by decide +kernel
theorem d_Parser_parseLink_5 : decode b_Parser_parseLink 5 = .ok (.ifCond .ne 5, 3) := by decide +kernel
theorem d_Parser_parseLink_8 : decode b_Parser_parseLink 8 = .ok (.iconst 0, 1) := by decide +kernel
theorem d_Parser_parseLink_9 : decode b_Parser_parseLink 9 = .ok (.ireturn, 1) := by decide +kernel
theorem d_Parser_parseLink_10 : decode b_Parser_parseLink 10 = .ok (.new 118, 3) := by decide +kernel
theorem d_Parser_parseLink_13 : decode b_Parser_parseLink 13 = .ok (.dup, 1) := by decide +kernel
theorem d_Parser_parseLink_14 : decode b_Parser_parseLink 14 = .ok (.aload_n 0, 1) := by decide +kernel
theorem d_Parser_parseLink_15 : decode b_Parser_parseLink 15 = .ok (.invokevirtual 64, 3) := by decide +kernel
theorem d_Parser_parseLink_18 : decode b_Parser_parseLink 18 = .ok (.invokespecial 120, 3) := by decide +kernel
theorem d_Parser_parseLink_21 : decode b_Parser_parseLink 21 = .ok (.astore_n 3, 1) := by decide +kernel
theorem d_Parser_parseLink_22 : decode b_Parser_parseLink 22 = .ok (.aload_n 0, 1) := by decide +kernel
theorem d_Parser_parseLink_23 : decode b_Parser_parseLink 23 = .ok (.aload_n 3, 1) := by decide +kernel
theorem d_Parser_parseLink_24 : decode b_Parser_parseLink 24 = .ok (.invokevirtual 121, 3) := by decide +kernel
theorem d_Parser_parseLink_27 : decode b_Parser_parseLink 27 = .ok (.ifCond .eq 12, 3) := by decide +kernel
theorem d_Parser_parseLink_30 : decode b_Parser_parseLink 30 = .ok (.aload_n 0, 1) := by decide +kernel
theorem d_Parser_parseLink_31 : decode b_Parser_parseLink 31 = .ok (.bipush 61, 2) := by decide +kernel
theorem d_Parser_parseLink_33 : decode b_Parser_parseLink 33 = .ok (.invokevirtual 43, 3) := by decide +kernel
theorem d_Parser_parseLink_36 : decode b_Parser_parseLink 36 = .ok (.ifCond .ne 5, 3) := by decide +kernel
theorem d_Parser_parseLink_39 : decode b_Parser_parseLink 39 = .ok (.iconst 0, 1) := by decide +kernel
theorem d_Parser_parseLink_40 : decode b_Parser_parseLink 40 = .ok (.ireturn, 1) := by decide +kernel
theorem d_Parser_parseLink_41 : decode b_Parser_parseLink 41 = .ok (.aload_n 0, 1) := by decide +kernel
theorem d_Parser_parseLink_42 : decode b_Parser_parseLink 42 = .ok (.bipush 10, 2) := by decide +kernel
theorem d_Parser_parseLink_44 : decode b_Parser_parseLink 44 = .ok (.invokevirtual 51, 3) := by decide +kernel
theorem d_Parser_parseLink_47 : decode b_Parser_parseLink 47 = .ok (.ifCond .ne 12, 3) := by decide +kernel
theorem d_Parser_parseLink_50 : decode b_Parser_parseLink 50 = .ok (.aload_n 0, 1) := by decide +kernel
theorem d_Parser_parseLink_51 : decode b_Parser_parseLink 51 = .ok (.bipush 11, 2) := by decide +kernel
theorem d_Parser_parseLink_53 : decode b_Parser_parseLink 53 = .ok (.invokevirtual 51, 3) := by decide +kernel
theorem d_Parser_parseLink_56 : decode b_Parser_parseLink 56 = .ok (.ifCond .eq 60, 3) := by decide +kernel
theorem d_Parser_parseLink_59 : decode b_Parser_parseLink 59 = .ok (.aload_n 0, 1) := by decide +kernel
theorem d_Parser_parseLink_60 : decode b_Parser_parseLink 60 = .ok (.bipush 10, 2) := by decide +kernel
theorem d_Parser_parseLink_62 : decode b_Parser_parseLink 62 = .ok (.invokevirtual 51, 3) := by decide +kernel
theorem d_Parser_parseLink_65 : decode b_Parser_parseLink 65 = .ok (.ifCond .eq 7, 3) := by decide +kernel
theorem d_Parser_parseLink_68 : decode b_Parser_parseLink 68 = .ok (.iconst 1, 1) := by decide +kernel
theorem d_Parser_parseLink_69 : decode b_Parser_parseLink 69 = .ok (.goto 4, 3) := by decide +kernel
theorem d_Parser_parseLink_72 : decode b_Parser_parseLink 72 = .ok (.iconst 0, 1) := by decide +kernel
theorem d_Parser_parseLink_73 : decode b_Parser_parseLink 73 = .ok (.istore 4, 2) := by decide +kernel
theorem d_Parser_parseLink_75 : decode b_Parser_parseLink 75 = .ok (.new 118, 3) := by decide +kernel
theorem d_Parser_parseLink_78 : decode b_Parser_parseLink 78 = .ok (.dup, 1) := by decide +kernel
theorem d_Parser_parseLink_79 : decode b_Parser_parseLink 79 = .ok (.aload_n 0, 1) := by decide +kernel
theorem d_Parser_parseLink_80 : decode b_Parser_parseLink 80 = .ok (.invokevirtual 64, 3) := by decide +kernel
theorem d_Parser_parseLink_83 : decode b_Parser_parseLink 83 = .ok (.invokespecial 120, 3) := by decide +kernel
theorem d_Parser_parseLink_86 : decode b_Parser_parseLink 86 = .ok (.astore 5, 2) := by decide +kernel
theorem d_Parser_parseLink_88 : decode b_Parser_parseLink 88 = .ok (.aload 5, 2) := by decide +kernel
theorem d_Parser_parseLink_90 : decode b_Parser_parseLink 90 = .ok (.iload 4, 2) := by decide +kernel
theorem d_Parser_parseLink_92 : decode b_Parser_parseLink 92 = .ok (.putfield 125, 3) := by decide +kernel
theorem d_Parser_parseLink_95 : decode b_Parser_parseLink 95 = .ok (.aload_n 2, 1) := by decide +kernel
theorem d_Parser_parseLink_96 : decode b_Parser_parseLink 96 = .ok (.getfield 128, 3) := by decide +kernel
theorem d_Parser_parseLink_99 : decode b_Parser_parseLink 99 = .ok (.new 131, 3) := by decide +kernel
theorem d_Parser_parseLink_102 : decode b_Parser_parseLink 102 = .ok (.dup, 1) := by decide +kernel
theorem d_Parser_parseLink_103 : decode b_Parser_parseLink 103 = .ok (.aload_n 3, 1) := by decide +kernel
theorem d_Parser_parseLink_104 : decode b_Parser_parseLink 104 = .ok (.aload 5, 2) := by decide +kernel
theorem d_Parser_parseLink_106 : decode b_Parser_parseLink 106 = .ok (.aconst_null, 1) := by decide +kernel
theorem d_Parser_parseLink_107 : decode b_Parser_parseLink 107 = .ok (.invokespecial 133, 3) := by decide +kernel
theorem d_Parser_parseLink_110 : decode b_Parser_parseLink 110 = .ok (.invokevirtual 71, 3) := by decide +kernel
theorem d_Parser_parseLink_113 : decode b_Parser_parseLink 113 = .ok (.pop, 1) := by decide +kernel
theorem d_Parser_parseLink_114 : decode b_Parser_parseLink 114 = .ok (.iconst 1, 1) := by decide +kernel
theorem d_Parser_parseLink_115 : decode b_Parser_parseLink 115 = .ok (.ireturn, 1) := by decide +kernel
theorem d_Parser_parseLink_116 : decode b_Parser_parseLink 116 = .ok (.aload_n 0, 1) := by decide +kernel
theorem d_Parser_parseLink_117 : decode b_Parser_parseLink 117 = .ok (.iconst 1, 1) := by decide +kernel
theorem d_Parser_parseLink_118 : decode b_Parser_parseLink 118 = .ok (.invokevirtual 58, 3) := by decide +kernel
theorem d_Parser_parseLink_121 : decode b_Parser_parseLink 121 = .ok (.ifCond .ne 5, 3) := by decide +kernel
theorem d_Parser_parseLink_124 : decode b_Parser_parseLink 124 = .ok (.iconst 0, 1) := by decide +kernel
theorem d_Parser_parseLink_125 : decode b_Parser_parseLink 125 = .ok (.ireturn, 1) := by decide +kernel
theorem d_Parser_parseLink_126 : decode b_Parser_parseLink 126 = .ok (.new 118, 3) := by decide +kernel
theorem d_Parser_parseLink_129 : decode b_Parser_parseLink 129 = .ok (.dup, 1) := by decide +kernel
theorem d_Parser_parseLink_130 : decode b_Parser_parseLink 130 = .ok (.aload_n 0, 1) := by decide +kernel
theorem d_Parser_parseLink_131 : decode b_Parser_parseLink 131 = .ok (.invokevirtual 64, 3) := by decide +kernel
theorem d_Parser_parseLink_134 : decode b_Parser_parseLink 134 = .ok (.invokespecial 120, 3) := by decide +kernel
theorem d_Parser_parseLink_137 : decode b_Parser_parseLink 137 = .ok (.astore 4, 2) := by decide +kernel
theorem d_Parser_parseLink_139 : decode b_Parser_parseLink 139 = .ok (.aload_n 1, 1) := by decide +kernel
theorem d_Parser_parseLink_140 : decode b_Parser_parseLink 140 = .ok (.aload 4, 2) := by decide +kernel
theorem d_Parser_parseLink_142 : decode b_Parser_parseLink 142 = .ok (.getfield 136, 3) := by decide +kernel
theorem d_Parser_parseLink_145 : decode b_Parser_parseLink 145 = .ok (.invokestatic 140, 3) := by decide +kernel
theorem d_Parser_parseLink_148 : decode b_Parser_parseLink 148 = .ok (.astore 5, 2) := by decide +kernel
theorem d_Parser_parseLink_150 : decode b_Parser_parseLink 150 = .ok (.aload 5, 2) := by decide +kernel
theorem d_Parser_parseLink_152 : decode b_Parser_parseLink 152 = .ok (.ifnonnull 20, 3) := by decide +kernel
theorem d_Parser_parseLink_155 : decode b_Parser_parseLink 155 = .ok (.aload_n 0, 1) := by decide +kernel
theorem d_Parser_parseLink_156 : decode b_Parser_parseLink 156 = .ok (.getfield 24, 3) := by decide +kernel
theorem d_Parser_parseLink_159 : decode b_Parser_parseLink 159 = .ok (.iconst 2, 1) := by decide +kernel
theorem d_Parser_parseLink_160 : decode b_Parser_parseLink 160 = .ok (.aload 4, 2) := by decide +kernel
theorem d_Parser_parseLink_162 : decode b_Parser_parseLink 162 = .ok (.getfield 136, 3) := by decide +kernel
theorem d_Parser_parseLink_165 : decode b_Parser_parseLink 165 = .ok (.getfield 146, 3) := by decide +kernel
theorem d_Parser_parseLink_168 : decode b_Parser_parseLink 168 = .ok (.invokevirtual 150, 3) := by decide +kernel
theorem d_Parser_parseLink_171 : decode b_Parser_parseLink 171 = .ok (.ireturn, 1) := by decide +kernel
theorem d_Parser_parseLink_172 : decode b_Parser_parseLink 172 = .ok (.aload_n 2, 1) := by decide +kernel
theorem d_Parser_parseLink_173 : decode b_Parser_parseLink 173 = .ok (.getfield 128, 3) := by decide +kernel
theorem d_Parser_parseLink_176 : decode b_Parser_parseLink 176 = .ok (.new 131, 3) := by decide +kernel
theorem d_Parser_parseLink_179 : decode b_Parser_parseLink 179 = .ok (.dup, 1) := by decide +kernel
theorem d_Parser_parseLink_180 : decode b_Parser_parseLink 180 = .ok (.aload_n 3, 1) := by decide +kernel
theorem d_Parser_parseLink_181 : decode b_Parser_parseLink 181 = .ok (.aload 4, 2) := by decide +kernel
theorem d_Parser_parseLink_183 : decode b_Parser_parseLink 183 = .ok (.aload 5, 2) := by decide +kernel
theorem d_Parser_parseLink_185 : decode b_Parser_parseLink 185 = .ok (.invokespecial 133, 3) := by decide +kernel
theorem d_Parser_parseLink_188 : decode b_Parser_parseLink 188 = .ok (.invokevirtual 71, 3) := by decide +kernel
theorem d_Parser_parseLink_191 : decode b_Parser_parseLink 191 = .ok (.pop, 1) := by decide +kernel
theorem d_Parser_parseLink_192 : decode b_Parser_parseLink 192 = .ok (.aload_n 0, 1) := by decide +kernel
theorem d_Parser_parseLink_193 : decode b_Parser_parseLink 193 = .ok (.aload 4, 2) := by decide +kernel
theorem d_Parser_parseLink_195 : decode b_Parser_parseLink 195 = .ok (.invokevirtual 121, 3) := by decide +kernel
theorem d_Parser_parseLink_198 : decode b_Parser_parseLink 198 = .ok (.ireturn, 1) := by decide +kernel
set_option maxHeartbeats 4000000 in
set_option maxRecDepth 100000 in
/-- parseLink(chip, part) -/
theorem p_Parser_parseLink (l : Launch) (dC : Nat → ClassId) (dI : Nat → Nat → Nat) (cB cI cL cZ cC cO : ClassId) (qp qc qt qf qk ql qn qh qe : Nat) {w0 w1 : Value} (fk : Nat → Int32) (pp nn : Nat → Nat) (fh fl : Nat → Int64) {L : List Nat} {G : PG} (c0 p0 a lp li lk : Nat) (xs ys zs : List Nat) (v0 v1 : Value) (t0 sz : Nat) (hL : gL L G) (ha0 : a ≤ 1000) (hk3 : ¬ fk 1000 = nI 3) (hk10 : ¬ (fk 1000 = nI 10 ∨ fk 1000 = nI 11)) (hc : G.1 c0 = 6) (hpl : G.2.2.2.2.2 c0 3 = some lp) (hil : G.2.2.2.2.2 c0 4 = some li) (hp0 : G.1 p0 = 5) (hlk : G.2.2.2.2.2 p0 1 = some lk) (h_l_lp : LSx t0 G lp xs) (h_l_li : LSx t0 G li ys) (h_l_lk : LSx t0 G lk zs) (hne : lk ≠ li) (hxl : xs.length ≤ 100) (hyl : ys.length ≤ 100) (hzl : zs.length ≤ 400) (hw : ∀ x ∈ xs, G.1 x = 2 ∧ ∃ nm, G.2.2.2.2.2 x 0 = some nm ∧ G.1 nm = 1) (hw2 : ∀ x ∈ ys, G.1 x = 2 ∧ ∃ nm, G.2.2.2.2.2 x 0 = some nm ∧ G.1 nm = 1) : Met l y_Parser_parseLink w_Parser_parseLink ({ frames := 10, cells := 8, slots := 1230, locals := 640 }) (va_Pc [.ref qp, .ref c0, .ref p0] (wB2 (dC, dI) cl [(cB, .byte), (cI, .int), (cL, .long), (cZ, .boolean), (cC, .char), (cO, .object "java/lang/Object")] sz t0 ([(qp, .inr (3, [.ref qc, .ref qt, .ref qf, .int (nI a)])), (qt, .inr (1, [w0, w1, .ref qk, .ref ql, .ref qn, .ref qh, .ref qe])), (qk, .inl (cI, 1001, .inl fk)), (ql, .inl (cI, 1001, .inl (nF pp))), (qn, .inl (cI, 1001, .inl (nF nn))), (qh, .inl (cL, 1001, .inr (.inl fh))), (qe, .inl (cL, 1001, .inr (.inl fl))), (qf, .inr (2, [v0, v1]))] ++ va_pl L (gE cO G)))) (va_Qi (fun (r : Int32) (u : (Nat × Value × Value) × List Nat × PG) => r = bI (plk fk pp (((xs.find? (ftk G (fh ((prc fk pp (a + 1) v0 v1).2.1 + 1)) (fl ((prc fk pp (a + 1) v0 v1).2.1 + 1))))).isSome || (((ys.find? (ftk G (fh ((prc fk pp (a + 1) v0 v1).2.1 + 1)) (fl ((prc fk pp (a + 1) v0 v1).2.1 + 1))))).isSome || decide (ys.length < 30))) a v0 v1).1 ∧ u.1 = (plk fk pp (((xs.find? (ftk G (fh ((prc fk pp (a + 1) v0 v1).2.1 + 1)) (fl ((prc fk pp (a + 1) v0 v1).2.1 + 1))))).isSome || (((ys.find? (ftk G (fh ((prc fk pp (a + 1) v0 v1).2.1 + 1)) (fl ((prc fk pp (a + 1) v0 v1).2.1 + 1))))).isSome || decide (ys.length < 30))) a v0 v1).2 ∧ (gL u.2.1 u.2.2 ∧ LFs G u.2.2 (fun b => b = lk ∨ b = li)) ∧ ((plk fk pp (((xs.find? (ftk G (fh ((prc fk pp (a + 1) v0 v1).2.1 + 1)) (fl ((prc fk pp (a + 1) v0 v1).2.1 + 1))))).isSome || (((ys.find? (ftk G (fh ((prc fk pp (a + 1) v0 v1).2.1 + 1)) (fl ((prc fk pp (a + 1) v0 v1).2.1 + 1))))).isSome || decide (ys.length < 30))) a v0 v1).1 = true → ∃ k1 s1 n1 s2 n2 wo, (frh G k1 ∧ frh G s1 ∧ frh G n1 ∧ frh G s2 ∧ frh G n2 ∧ s1 ≠ s2 ∧ n1 ≠ n2) ∧ isK u.2.2 k1 s1 s2 none wo ∧ isS u.2.2 s1 n1 none (prt fk pp nn (a + 1)).1 (prt fk pp nn (a + 1)).2.1 (prt fk pp nn (a + 1)).2.2 ∧ isN u.2.2 n1 (fh a) (fl a) (some (pp a)) ∧ isN u.2.2 n2 (fh ((prc fk pp (a + 1) v0 v1).2.1 + 1)) (fl ((prc fk pp (a + 1) v0 v1).2.1 + 1)) (some (pp ((prc fk pp (a + 1) v0 v1).2.1 + 1))) ∧ LSx t0 u.2.2 lk (zs ++ [k1]) ∧ (((fk ((prc fk pp (a + 1) v0 v1).2.1 + 1) = nI 10 ∨ fk ((prc fk pp (a + 1) v0 v1).2.1 + 1) = nI 11) ∧ isS u.2.2 s2 n2 (some (if fk ((prc fk pp (a + 1) v0 v1).2.1 + 1) = nI 10 then 1 else 0)) none 0 0 ∧ wo = none ∧ LSx t0 u.2.2 li ys) ∨ (¬ (fk ((prc fk pp (a + 1) v0 v1).2.1 + 1) = nI 10 ∨ fk ((prc fk pp (a + 1) v0 v1).2.1 + 1) = nI 11) ∧ isS u.2.2 s2 n2 none (prt fk pp nn (((prc fk pp (a + 1) v0 v1).2.1 + 1) + 1)).1 (prt fk pp nn (((prc fk pp (a + 1) v0 v1).2.1 + 1) + 1)).2.1 (prt fk pp nn (((prc fk pp (a + 1) v0 v1).2.1 + 1) + 1)).2.2 ∧ ((∃ x, ((xs.find? (ftk G (fh ((prc fk pp (a + 1) v0 v1).2.1 + 1)) (fl ((prc fk pp (a + 1) v0 v1).2.1 + 1)))) = some x ∨ ((xs.find? (ftk G (fh ((prc fk pp (a + 1) v0 v1).2.1 + 1)) (fl ((prc fk pp (a + 1) v0 v1).2.1 + 1)))) = none ∧ (ys.find? (ftk G (fh ((prc fk pp (a + 1) v0 v1).2.1 + 1)) (fl ((prc fk pp (a + 1) v0 v1).2.1 + 1)))) = some x)) ∧ wo = some x ∧ LSx t0 u.2.2 li ys) ∨ ((xs.find? (ftk G (fh ((prc fk pp (a + 1) v0 v1).2.1 + 1)) (fl ((prc fk pp (a + 1) v0 v1).2.1 + 1)))) = none ∧ (ys.find? (ftk G (fh ((prc fk pp (a + 1) v0 v1).2.1 + 1)) (fl ((prc fk pp (a + 1) v0 v1).2.1 + 1)))) = none ∧ ∃ w, frh G w ∧ isW u.2.2 w n2 2 ∧ wo = some w ∧ LSx t0 u.2.2 li (ys ++ [w]))))))) (fun u t => wA (dC, dI) cl [(cB, .byte), (cI, .int), (cL, .long), (cZ, .boolean), (cC, .char), (cO, .object "java/lang/Object")] (va_A ([(qp, .inr (3, [.ref qc, .ref qt, .ref qf, .int (nI a)])), (qt, .inr (1, [w0, w1, .ref qk, .ref ql, .ref qn, .ref qh, .ref qe])), (qk, .inl (cI, 1001, .inl fk)), (ql, .inl (cI, 1001, .inl (nF pp))), (qn, .inl (cI, 1001, .inl (nF nn))), (qh, .inl (cL, 1001, .inr (.inl fh))), (qe, .inl (cL, 1001, .inr (.inl fl))), (qf, .inr (2, [v0, v1]))] ++ va_pl L (gE cO G)) sz) ([(qp, .inr (3, [.ref qc, .ref qt, .ref qf, .int (nI u.1.1)])), (qt, .inr (1, [w0, w1, .ref qk, .ref ql, .ref qn, .ref qh, .ref qe])), (qk, .inl (cI, 1001, .inl fk)), (ql, .inl (cI, 1001, .inl (nF pp))), (qn, .inl (cI, 1001, .inl (nF nn))), (qh, .inl (cL, 1001, .inr (.inl fh))), (qe, .inl (cL, 1001, .inr (.inl fl))), (qf, .inr (2, [u.1.2.1, u.1.2.2]))] ++ va_pl u.2.1 (gE cO u.2.2)) t) (va_A ([(qp, .inr (3, [.ref qc, .ref qt, .ref qf, .int (nI a)])), (qt, .inr (1, [w0, w1, .ref qk, .ref ql, .ref qn, .ref qh, .ref qe])), (qk, .inl (cI, 1001, .inl fk)), (ql, .inl (cI, 1001, .inl (nF pp))), (qn, .inl (cI, 1001, .inl (nF nn))), (qh, .inl (cL, 1001, .inr (.inl fh))), (qe, .inl (cL, 1001, .inr (.inl fl))), (qf, .inr (2, [v0, v1]))] ++ va_pl L (gE cO G)) sz)) 8 1230 (va_A ([(qp, .inr (3, [.ref qc, .ref qt, .ref qf, .int (nI a)])), (qt, .inr (1, [w0, w1, .ref qk, .ref ql, .ref qn, .ref qh, .ref qe])), (qk, .inl (cI, 1001, .inl fk)), (ql, .inl (cI, 1001, .inl (nF pp))), (qn, .inl (cI, 1001, .inl (nF nn))), (qh, .inl (cL, 1001, .inr (.inl fh))), (qe, .inl (cL, 1001, .inr (.inl fl))), (qf, .inr (2, [v0, v1]))] ++ va_pl L (gE cO G)) sz) := by
  refine Met.ofW (cc := b_Parser_parseLink) (maxL := 6) (ret := (some ClassFile.FieldType.boolean)) (by decide) rfl ?_
  intro p e s m args below meth c s₁ B hml hv
  obtain ⟨rfl, ⟨hsz, hP, hK, hD0, hF⟩, hE⟩ := hv
  have hx := B.exec
  have hb := B.bytes
  have hr := B.returns
  have hts := atoms_spec (ws := w_Parser_parseLink) B.pre
  have hts : ∀ w ∈ tb, w.before _ s = true := fun w h => hts w (List.mem_cons_of_mem _ h)
  have hown : s.vm.findClass R_Parser = some m.cls := findClass_of_methodNamed B.named
  have hlocks := B.notSynchronized
  subst hsz
  have hD := hD0.self (sz := s.heap.size)
  generalize hAe : va_A ([(qp, .inr (3, [.ref qc, .ref qt, .ref qf, .int (nI a)])), (qt, .inr (1, [w0, w1, .ref qk, .ref ql, .ref qn, .ref qh, .ref qe])), (qk, .inl (cI, 1001, .inl fk)), (ql, .inl (cI, 1001, .inl (nF pp))), (qn, .inl (cI, 1001, .inl (nF nn))), (qh, .inl (cL, 1001, .inr (.inl fh))), (qe, .inl (cL, 1001, .inr (.inl fl))), (qf, .inr (2, [v0, v1]))] ++ va_pl L (gE cO G)) s.heap.size = A at hD hF hE ⊢
  have hA : ∀ q : Nat, s.heap.size ≤ q → A q := fun q h => by rw [← hAe]; exact Or.inr h
  have hS : va_S A s.heap s.heap [] := va_S.rf
  have hP : va_P (dC, dI) cl ([(qp, .inr (3, [.ref qc, .ref qt, .ref qf, .int (nI a)])), (qt, .inr (1, [w0, w1, .ref qk, .ref ql, .ref qn, .ref qh, .ref qe])), (qk, .inl (cI, 1001, .inl fk)), (ql, .inl (cI, 1001, .inl (nF pp))), (qn, .inl (cI, 1001, .inl (nF nn))), (qh, .inl (cL, 1001, .inr (.inl fh))), (qe, .inl (cL, 1001, .inr (.inl fl))), (qf, .inr (2, [v0, v1]))] ++ va_pl L (gE cO G)) s.heap := hP
  have hl := lv_entry ([.ref qp, .ref c0, .ref p0]) (n := 6) (Nat.le_of_ble_eq_true rfl)
  rw [lg_entry_eq]
  generalize (lg_sl ([.ref qp, .ref c0, .ref p0]) ++ List.replicate (6 - (lg_sl ([.ref qp, .ref c0, .ref p0])).length) Slot.unset).toArray = ls at hl ⊢
  have hl : lv_has ls 6 [(0, .ref qp), (1, .ref c0), (2, .ref p0)] := hl
  have fo : ∀ b, G.1 b ≠ 0 → gs G G b := fun b _ => gs.rf G b
  have g_c : gs G G c0 := gs.rf G c0
  have g_ck : G.1 c0 = 6 := hc
  have g_p : gs G G p0 := gs.rf G p0
  have g_pk : G.1 p0 = 5 := hp0
  have l_lp := h_l_lp
  have l_li := h_l_li
  have l_lk := h_l_lk
  have nSp : ¬ (p0 = lk ∨ p0 = li) := fun q9 => by rcases q9 with q9 | q9 <;> rw [q9] at hp0 <;> first | (rw [l_lk.k.1] at hp0; cases hp0) | (rw [l_li.k.1] at hp0; cases hp0)
  have nSc : ¬ (c0 = lk ∨ c0 = li) := fun q9 => by rcases q9 with q9 | q9 <;> rw [q9] at hc <;> first | (rw [l_lk.k.1] at hc; cases hc) | (rw [l_li.k.1] at hc; cases hc)
  refine lv_aload_n hx hb d_Parser_parseLink_0 rfl (lv_at hl 0 rfl) ?_
  refine lv_iconst (v := nI 1) hx hb d_Parser_parseLink_1 (by decide) ?_
  refine we_i (cx := [(qp, .inr (3, [.ref qc, .ref qt, .ref qf, .int (nI a)])), (qt, .inr (1, [w0, w1, .ref qk, .ref ql, .ref qn, .ref qh, .ref qe])), (qk, .inl (cI, 1001, .inl fk)), (ql, .inl (cI, 1001, .inl (nF pp))), (qf, .inr (2, [v0, v1]))]) (wr := [(qn, .inl (cI, 1001, .inl (nF nn))), (qh, .inl (cL, 1001, .inr (.inl fh))), (qe, .inl (cL, 1001, .inr (.inl fl)))]) (pl := va_pl L (gE cO G)) (va_runV (As := [.int (nI 1)]) (rest := []) ⟨hx, hb, hml, hown, hts⟩ (c_Parser_wantNameWithRoom l dC dI cB cI cL cZ cC cO qp qc qt qf qk ql v0 v1 fk (nF pp) a true _ (by omega)) (cwV 1 hts (good_V k_538 k_540 s_Parser_wantNameWithRoom k_4 k_541) rfl rfl rfl (by decide +kernel) ⟨Nat.le_of_ble_eq_true rfl, Nat.le_of_ble_eq_true rfl⟩) (wc_preV (k0 := 0) (ci := 3) (r := (R_Parser, F_Parser, 4)) hK hP hD hS hA hF [0, 1, 2, 3, 7] (by decide) rfl rfl rfl) rfl rfl hl.1 rfl (lv_room (Nat.le_of_ble_eq_true rfl)) d_Parser_parseLink_2 ⟨Nat.le_of_ble_eq_true rfl, Nat.le_of_ble_eq_true rfl⟩) hP hD hS hA [0, 1, 2, 3, 7] [4, 5, 6] rfl rfl (by decide) (by decide) (fun r_4 u_2 H locs w_3 hP hD hS => ?_)
  have hP : va_P (dC, dI) cl ([(qn, .inl (cI, 1001, .inl (nF nn))), (qh, .inl (cL, 1001, .inr (.inl fh))), (qe, .inl (cL, 1001, .inr (.inl fl))), (qp, .inr (3, [.ref qc, .ref qt, .ref qf, .int (nI a)])), (qt, .inr (1, [w0, w1, .ref qk, .ref ql, .ref qn, .ref qh, .ref qe])), (qk, .inl (cI, 1001, .inl fk)), (ql, .inl (cI, 1001, .inl (nF pp))), (qf, .inr (2, [u_2.1, u_2.2]))] ++ va_pl L (gE cO G)) H := hP
  have hD : va_D A ([(qn, .inl (cI, 1001, .inl (nF nn))), (qh, .inl (cL, 1001, .inr (.inl fh))), (qe, .inl (cL, 1001, .inr (.inl fl))), (qp, .inr (3, [.ref qc, .ref qt, .ref qf, .int (nI a)])), (qt, .inr (1, [w0, w1, .ref qk, .ref ql, .ref qn, .ref qh, .ref qe])), (qk, .inl (cI, 1001, .inl fk)), (ql, .inl (cI, 1001, .inl (nF pp))), (qf, .inr (2, [u_2.1, u_2.2]))] ++ va_pl L (gE cO G)) := hD
  obtain ⟨r_4e, u_2e⟩ := w_3
  subst r_4e
  by_cases tk_1 : wn_ok fk a true = true
  · rw [wn_T tk_1] at u_2e
    subst u_2e
    have hb_tk_1 : a < 1000 := wn_lt hk3 (by omega) tk_1
    have hP : va_P (dC, dI) cl ([(qn, .inl (cI, 1001, .inl (nF nn))), (qh, .inl (cL, 1001, .inr (.inl fh))), (qe, .inl (cL, 1001, .inr (.inl fl))), (qp, .inr (3, [.ref qc, .ref qt, .ref qf, .int (nI a)])), (qt, .inr (1, [w0, w1, .ref qk, .ref ql, .ref qn, .ref qh, .ref qe])), (qk, .inl (cI, 1001, .inl fk)), (ql, .inl (cI, 1001, .inl (nF pp))), (qf, .inr (2, [v0, v1]))] ++ va_pl L (gE cO G)) H := hP
    have hD : va_D A ([(qn, .inl (cI, 1001, .inl (nF nn))), (qh, .inl (cL, 1001, .inr (.inl fh))), (qe, .inl (cL, 1001, .inr (.inl fl))), (qp, .inr (3, [.ref qc, .ref qt, .ref qf, .int (nI a)])), (qt, .inr (1, [w0, w1, .ref qk, .ref ql, .ref qn, .ref qh, .ref qe])), (qk, .inl (cI, 1001, .inl fk)), (ql, .inl (cI, 1001, .inl (nF pp))), (qf, .inr (2, [v0, v1]))] ++ va_pl L (gE cO G)) := hD
    refine nv_bif_ne (tgt := 10) hx hb d_Parser_parseLink_5 (by decide) (fun c_5 => ?_) (fun c_5 => ?_)
    · refine pq_new (ci := 11) (fs := [.null, .int (nI 0), .int (nI 0), .int (nI 0), .int (nI 0)]) (C := R_Side) (T := F_Side) (N := 5) (fn := fun q9 => gE cO (g0 G q9 3)) hx hb hts i_Side t_Side t_Side_ok hown (hts _ k_607) (hts _ k_608) (hts _ k_21) hK hP hD hS hA rfl (fun j hj => by rcases (show j = 0 ∨ j = 1 ∨ j = 2 ∨ j = 3 ∨ j = 4 by omega) with rfl | rfl | rfl | rfl | rfl <;> rfl) (Nat.le_of_ble_eq_true rfl) (Nat.le_of_ble_eq_true rfl) (fun q9 => nE_3 (G := G) q9) d_Parser_parseLink_10 (fun q_6 H nq_6 hP hD hS => ?_)
      have kf_7 : (g0 G q_6 3).1 c0 = 6 := (g0_k hL g_ck (by decide) nq_6)
      have ne_8 : c0 ≠ q_6 := g0_ne hL g_ck (by decide) nq_6
      have kf_9 : (g0 G q_6 3).1 p0 = 5 := (g0_k hL g_pk (by decide) nq_6)
      have ne_10 : p0 ≠ q_6 := g0_ne hL g_pk (by decide) nq_6
      have kf_11 : (g0 G q_6 3).1 lp = 7 := (g0_k hL l_lp.k.1 (by decide) nq_6)
      have ne_12 : lp ≠ q_6 := g0_ne hL l_lp.k.1 (by decide) nq_6
      have kf_13 : (g0 G q_6 3).1 li = 7 := (g0_k hL l_li.k.1 (by decide) nq_6)
      have ne_14 : li ≠ q_6 := g0_ne hL l_li.k.1 (by decide) nq_6
      have kf_15 : (g0 G q_6 3).1 lk = 7 := (g0_k hL l_lk.k.1 (by decide) nq_6)
      have ne_16 : lk ≠ q_6 := g0_ne hL l_lk.k.1 (by decide) nq_6
      have fa_17 : (g0 G q_6 3).2.2.2.2.2 c0 3 = some lp := (congrFun ((gs_0 ne_8).2.2.2.2.2) 3).trans (show _ = some lp by rw [g_c.2.2.2.2.2]; exact hpl)
      have fa_18 : (g0 G q_6 3).2.2.2.2.2 c0 4 = some li := (congrFun ((gs_0 ne_8).2.2.2.2.2) 4).trans (show _ = some li by rw [g_c.2.2.2.2.2]; exact hil)
      have fa_19 : (g0 G q_6 3).2.2.2.2.2 p0 1 = some lk := (congrFun ((gs_0 ne_10).2.2.2.2.2) 1).trans (show _ = some lk by rw [g_p.2.2.2.2.2]; exact hlk)
      have hL0 := hL
      have hz9 : G.1 q_6 = 0 := g0_n hL nq_6
      replace hL := gL_new (a := q_6) (n := 3) hL
      have hP : va_P (dC, dI) cl ([(qn, .inl (cI, 1001, .inl (nF nn))), (qh, .inl (cL, 1001, .inr (.inl fh))), (qe, .inl (cL, 1001, .inr (.inl fl))), (qp, .inr (3, [.ref qc, .ref qt, .ref qf, .int (nI a)])), (qt, .inr (1, [w0, w1, .ref qk, .ref ql, .ref qn, .ref qh, .ref qe])), (qk, .inl (cI, 1001, .inl fk)), (ql, .inl (cI, 1001, .inl (nF pp))), (qf, .inr (2, [v0, v1]))] ++ va_pl (L ++ [q_6]) (gE cO (g0 G q_6 3))) H := hP
      have hD : va_D A ([(qn, .inl (cI, 1001, .inl (nF nn))), (qh, .inl (cL, 1001, .inr (.inl fh))), (qe, .inl (cL, 1001, .inr (.inl fl))), (qp, .inr (3, [.ref qc, .ref qt, .ref qf, .int (nI a)])), (qt, .inr (1, [w0, w1, .ref qk, .ref ql, .ref qn, .ref qh, .ref qe])), (qk, .inl (cI, 1001, .inl fk)), (ql, .inl (cI, 1001, .inl (nF pp))), (qf, .inr (2, [v0, v1]))] ++ va_pl (L ++ [q_6]) (gE cO (g0 G q_6 3))) := hD
      refine lv_dup hx hb d_Parser_parseLink_13 rfl ?_
      refine lv_aload_n hx hb d_Parser_parseLink_14 rfl (lv_at hl 0 rfl) ?_
      have hzq1 : G.1 q_6 = 0 := hz9
      refine we_q (cx := [(qp, .inr (3, [.ref qc, .ref qt, .ref qf, .int (nI a)])), (qt, .inr (1, [w0, w1, .ref qk, .ref ql, .ref qn, .ref qh, .ref qe])), (ql, .inl (cI, 1001, .inl (nF pp))), (qh, .inl (cL, 1001, .inr (.inl fh))), (qe, .inl (cL, 1001, .inr (.inl fl)))]) (wr := [(qn, .inl (cI, 1001, .inl (nF nn))), (qk, .inl (cI, 1001, .inl fk)), (qf, .inr (2, [v0, v1]))]) (pl := va_pl (L ++ [q_6]) (gE cO (g0 G q_6 3))) (va_runV (As := []) (rest := [.ref q_6, .ref q_6]) ⟨hx, hb, hml, hown, hts⟩ (c_Parser_takeName l dC dI cB cI cL cZ cC cO qp qt ql qh qe (nF pp) fh fl a _ (by omega)) (cwV 0 hts (good_V k_543 k_545 s_Parser_takeName k_4 k_546) rfl rfl rfl (by decide +kernel) ⟨Nat.le_of_ble_eq_true rfl, Nat.le_of_ble_eq_true rfl⟩) (wc_preV (k0 := 3) (ci := 3) (r := (R_Parser, F_Parser, 4)) hK hP hD hS hA hF [3, 4, 6, 1, 2] (by decide) rfl rfl rfl) rfl rfl hl.1 rfl (lv_room (Nat.le_of_ble_eq_true rfl)) d_Parser_parseLink_15 ⟨Nat.le_of_ble_eq_true rfl, Nat.le_of_ble_eq_true rfl⟩) hP hD hS hA [3, 4, 6, 1, 2] [0, 5, 7] rfl rfl (by decide) (by decide) (fun r_21 nm1 H locs w_20 hP hD hS => ?_)
      have hP : va_P (dC, dI) cl ([(qn, .inl (cI, 1001, .inl (nF nn))), (qk, .inl (cI, 1001, .inl fk)), (qf, .inr (2, [v0, v1])), (qp, .inr (3, [.ref qc, .ref qt, .ref qf, .int (nI (min (a + 1) 1000))])), (qt, .inr (1, [w0, w1, .ref qk, .ref ql, .ref qn, .ref qh, .ref qe])), (ql, .inl (cI, 1001, .inl (nF pp))), (qh, .inl (cL, 1001, .inr (.inl fh))), (qe, .inl (cL, 1001, .inr (.inl fl))), (nm1, .inr (7, [.long (fh a), .long (fl a), .int (nI (pp a))]))] ++ va_pl (L ++ [q_6]) (gE cO (g0 G q_6 3))) H := hP
      have hD : va_D A ([(qn, .inl (cI, 1001, .inl (nF nn))), (qk, .inl (cI, 1001, .inl fk)), (qf, .inr (2, [v0, v1])), (qp, .inr (3, [.ref qc, .ref qt, .ref qf, .int (nI (min (a + 1) 1000))])), (qt, .inr (1, [w0, w1, .ref qk, .ref ql, .ref qn, .ref qh, .ref qe])), (ql, .inl (cI, 1001, .inl (nF pp))), (qh, .inl (cL, 1001, .inr (.inl fh))), (qe, .inl (cL, 1001, .inr (.inl fl))), (nm1, .inr (7, [.long (fh a), .long (fl a), .int (nI (pp a))]))] ++ va_pl (L ++ [q_6]) (gE cO (g0 G q_6 3))) := hD
      subst w_20
      obtain ⟨nnm1, hP, hD⟩ := pq_in (X := [(qn, .inl (cI, 1001, .inl (nF nn))), (qk, .inl (cI, 1001, .inl fk)), (qf, .inr (2, [v0, v1])), (qp, .inr (3, [.ref qc, .ref qt, .ref qf, .int (nI (min (a + 1) 1000))])), (qt, .inr (1, [w0, w1, .ref qk, .ref ql, .ref qn, .ref qh, .ref qe])), (ql, .inl (cI, 1001, .inl (nF pp))), (qh, .inl (cL, 1001, .inr (.inl fh))), (qe, .inl (cL, 1001, .inr (.inl fl)))]) hP hD
      have hP : va_P (dC, dI) cl ([(qn, .inl (cI, 1001, .inl (nF nn))), (qk, .inl (cI, 1001, .inl fk)), (qf, .inr (2, [v0, v1])), (qp, .inr (3, [.ref qc, .ref qt, .ref qf, .int (nI (min (a + 1) 1000))])), (qt, .inr (1, [w0, w1, .ref qk, .ref ql, .ref qn, .ref qh, .ref qe])), (ql, .inl (cI, 1001, .inl (nF pp))), (qh, .inl (cL, 1001, .inr (.inl fh))), (qe, .inl (cL, 1001, .inr (.inl fl)))] ++ va_pl (L ++ [q_6] ++ [nm1]) (gE cO (nam (g0 G q_6 3) nm1 (fh a) (fl a) (some (pp a))))) H := by rw [← namE]; exact hP
      have hD : va_D A ([(qn, .inl (cI, 1001, .inl (nF nn))), (qk, .inl (cI, 1001, .inl fk)), (qf, .inr (2, [v0, v1])), (qp, .inr (3, [.ref qc, .ref qt, .ref qf, .int (nI (min (a + 1) 1000))])), (qt, .inr (1, [w0, w1, .ref qk, .ref ql, .ref qn, .ref qh, .ref qe])), (ql, .inl (cI, 1001, .inl (nF pp))), (qh, .inl (cL, 1001, .inr (.inl fh))), (qe, .inl (cL, 1001, .inr (.inl fl)))] ++ va_pl (L ++ [q_6] ++ [nm1]) (gE cO (nam (g0 G q_6 3) nm1 (fh a) (fl a) (some (pp a))))) := by rw [← namE]; exact hD
      obtain ⟨z11, z12, z13⟩ := isN_new (q := nm1) (hh := fh a) (tt := fl a) (pl := some (pp a)) hL
      have hq1 : (g0 G q_6 3).1 nm1 = 0 := g0_n hL nnm1
      generalize nam (g0 G q_6 3) nm1 (fh a) (fl a) (some (pp a)) = T1 at hP hD z11 z12 z13
      have hL := z12
      rw [show min (a + 1) 1000 = a + 1 by omega] at hP hD
      have hP : va_P (dC, dI) cl ([(qn, .inl (cI, 1001, .inl (nF nn))), (qk, .inl (cI, 1001, .inl fk)), (qf, .inr (2, [v0, v1])), (qp, .inr (3, [.ref qc, .ref qt, .ref qf, .int (nI (a + 1))])), (qt, .inr (1, [w0, w1, .ref qk, .ref ql, .ref qn, .ref qh, .ref qe])), (ql, .inl (cI, 1001, .inl (nF pp))), (qh, .inl (cL, 1001, .inr (.inl fh))), (qe, .inl (cL, 1001, .inr (.inl fl)))] ++ va_pl (L ++ [q_6] ++ [nm1]) (gE cO T1)) H := hP
      have hD : va_D A ([(qn, .inl (cI, 1001, .inl (nF nn))), (qk, .inl (cI, 1001, .inl fk)), (qf, .inr (2, [v0, v1])), (qp, .inr (3, [.ref qc, .ref qt, .ref qf, .int (nI (a + 1))])), (qt, .inr (1, [w0, w1, .ref qk, .ref ql, .ref qn, .ref qh, .ref qe])), (ql, .inl (cI, 1001, .inl (nF pp))), (qh, .inl (cL, 1001, .inr (.inl fh))), (qe, .inl (cL, 1001, .inr (.inl fl)))] ++ va_pl (L ++ [q_6] ++ [nm1]) (gE cO T1)) := hD
      have kf_22 : T1.1 c0 = 6 := (z13 c0 (fun e9 => absurd ((kf_7).symm.trans ((congrArg (g0 G q_6 3).1 e9).trans hq1)) (by decide))).1.trans kf_7
      have kf_23 : T1.1 p0 = 5 := (z13 p0 (fun e9 => absurd ((kf_9).symm.trans ((congrArg (g0 G q_6 3).1 e9).trans hq1)) (by decide))).1.trans kf_9
      have kf_24 : T1.1 lp = 7 := (z13 lp (fun e9 => absurd ((kf_11).symm.trans ((congrArg (g0 G q_6 3).1 e9).trans hq1)) (by decide))).1.trans kf_11
      have kf_25 : T1.1 li = 7 := (z13 li (fun e9 => absurd ((kf_13).symm.trans ((congrArg (g0 G q_6 3).1 e9).trans hq1)) (by decide))).1.trans kf_13
      have kf_26 : T1.1 lk = 7 := (z13 lk (fun e9 => absurd ((kf_15).symm.trans ((congrArg (g0 G q_6 3).1 e9).trans hq1)) (by decide))).1.trans kf_15
      have kf_27 : T1.1 q_6 = 3 := (z13 q_6 (fun e9 => absurd (((g0_q G q_6 3)).symm.trans ((congrArg (g0 G q_6 3).1 e9).trans hq1)) (by decide))).1.trans (g0_q G q_6 3)
      refine wd_v (cx := []) (wr := [(qn, .inl (cI, 1001, .inl (nF nn))), (qk, .inl (cI, 1001, .inl fk)), (qf, .inr (2, [v0, v1])), (qp, .inr (3, [.ref qc, .ref qt, .ref qf, .int (nI (a + 1))])), (qt, .inr (1, [w0, w1, .ref qk, .ref ql, .ref qn, .ref qh, .ref qe])), (ql, .inl (cI, 1001, .inl (nF pp))), (qh, .inl (cL, 1001, .inr (.inl fh))), (qe, .inl (cL, 1001, .inr (.inl fl)))]) (pl := va_pl (L ++ [q_6] ++ [nm1]) (gE cO T1)) (va_runI (As := [.ref nm1]) (rest := [.ref q_6]) ⟨hx, hb, hml, hown, hts⟩ (p_Side_init l dC dI cB cI cL cZ cC cO (G := T1) q_6 nm1 t0 _ hL kf_27) (cwI 1 hts (good_c k_611) rfl rfl rfl (hts _ k_21) (hts _ k_609) (hts _ k_610) rfl (by decide +kernel) ⟨Nat.le_of_ble_eq_true rfl, Nat.le_of_ble_eq_true rfl⟩) (wd_preS hK hP hD hS hA hF hE [] (by decide) rfl) rfl rfl hl.1 rfl (lv_room (Nat.le_of_ble_eq_true rfl)) d_Parser_parseLink_18 ⟨Nat.le_of_ble_eq_true rfl, Nat.le_of_ble_eq_true rfl⟩) hP hD hS hA [] [0, 1, 2, 3, 4, 5, 6, 7] rfl rfl (by decide) (by decide) (fun _ H locs w_28 hP hD hS => ?_)
      have hP : va_P (dC, dI) cl ([(qn, .inl (cI, 1001, .inl (nF nn))), (qk, .inl (cI, 1001, .inl fk)), (qf, .inr (2, [v0, v1])), (qp, .inr (3, [.ref qc, .ref qt, .ref qf, .int (nI (a + 1))])), (qt, .inr (1, [w0, w1, .ref qk, .ref ql, .ref qn, .ref qh, .ref qe])), (ql, .inl (cI, 1001, .inl (nF pp))), (qh, .inl (cL, 1001, .inr (.inl fh))), (qe, .inl (cL, 1001, .inr (.inl fl)))] ++ va_pl (L ++ [q_6] ++ [nm1]) (gE cO (sid T1 q_6 nm1))) H := hP
      have hD : va_D A ([(qn, .inl (cI, 1001, .inl (nF nn))), (qk, .inl (cI, 1001, .inl fk)), (qf, .inr (2, [v0, v1])), (qp, .inr (3, [.ref qc, .ref qt, .ref qf, .int (nI (a + 1))])), (qt, .inr (1, [w0, w1, .ref qk, .ref ql, .ref qn, .ref qh, .ref qe])), (ql, .inl (cI, 1001, .inl (nF pp))), (qh, .inl (cL, 1001, .inr (.inl fh))), (qe, .inl (cL, 1001, .inr (.inl fl)))] ++ va_pl (L ++ [q_6] ++ [nm1]) (gE cO (sid T1 q_6 nm1))) := hD
      have is1 := isS_of (nm := nm1) kf_27
      have hqn1 : q_6 ≠ nm1 := fun e9 => by have q9 := kf_27; rw [e9, z11.1] at q9; cases q9
      have in1 : isN (sid T1 q_6 nm1) nm1 _ _ _ := z11.keep (sid_gs (Ne.symm hqn1))
      have hnm1 : G.1 nm1 = 0 := by have q9 := hq1; rw [(gs_0 (Ne.symm hqn1)).1] at q9; exact q9
      have hfr : ∀ b, G.1 b ≠ 0 → gs G (sid T1 q_6 nm1) b := fun b h9 => ((gs_0 (fun e9 => h9 (by rw [e9]; exact hzq1))).tr (z13 b (fun e9 => h9 (by rw [e9]; exact hnm1)))).tr (sid_gs (fun e9 => h9 (by rw [e9]; exact hzq1)))
      have hL : gL (L ++ [q_6] ++ [nm1]) (sid T1 q_6 nm1) := hL
      generalize sid T1 q_6 nm1 = G1 at hP hD is1 in1 hfr hL
      have fre1z : G.1 q_6 = 0 := Classical.byContradiction (fun h9 => h9 ((fo q_6 h9).1.symm.trans hzq1))
      have fre1s : frh G q_6 := frh.fr (frh0 hzq1) (LFs_of fo (fun _ => False))
      have fre1n : frh G nm1 := frh.fr (frh0 hnm1) (LFs_of fo (fun _ => False))
      have fo : ∀ b, G.1 b ≠ 0 → gs G G1 b := (fun b h9 => (fo b h9).tr (hfr b (by rw [(fo b h9).1]; exact h9)))
      have g_c := fo c0 (by rw [hc]; decide)
      have g_ck := g_c.1.trans hc
      have g_p := fo p0 (by rw [hp0]; decide)
      have g_pk := g_p.1.trans hp0
      have l_lp := LSx_old l_lp hfr
      have l_li := LSx_old l_li hfr
      have l_lk := LSx_old l_lk hfr
      refine lv_astore_n (lv' := [(3, .ref q_6), (0, .ref qp), (1, .ref c0), (2, .ref p0)]) hx hb d_Parser_parseLink_21 rfl hl (by decide) rfl (fun ls hl => ?_)
      refine lv_aload_n hx hb d_Parser_parseLink_22 rfl (lv_at hl 1 rfl) ?_
      refine lv_aload_n hx hb d_Parser_parseLink_23 rfl (lv_at hl 0 rfl) ?_
      refine wd_i (cx := [(qp, .inr (3, [.ref qc, .ref qt, .ref qf, .int (nI (a + 1))])), (qt, .inr (1, [w0, w1, .ref qk, .ref ql, .ref qn, .ref qh, .ref qe])), (qk, .inl (cI, 1001, .inl fk)), (ql, .inl (cI, 1001, .inl (nF pp))), (qn, .inl (cI, 1001, .inl (nF nn))), (qh, .inl (cL, 1001, .inr (.inl fh))), (qe, .inl (cL, 1001, .inr (.inl fl))), (qf, .inr (2, [v0, v1]))]) (wr := []) (pl := va_pl (L ++ [q_6] ++ [nm1]) (gE cO G1)) (va_runV (As := [.ref q_6]) (rest := []) ⟨hx, hb, hml, hown, hts⟩ (p_Parser_parseRange l dC dI cB cI cL cZ cC cO qp qc qt qf qk ql qn qh qe fk pp nn fh fl (G := G1) q_6 (a + 1) v0 v1 t0 _ hL (by omega) is1.1) (cwV 1 hts (good_V k_638 k_640 s_Parser_parseRange k_4 k_641) rfl rfl rfl (by decide +kernel) ⟨Nat.le_of_ble_eq_true rfl, Nat.le_of_ble_eq_true rfl⟩) (wd_preV (ci := 3) (r := (R_Parser, F_Parser, 4)) hK hP hD hS hA hF hE [3, 4, 1, 5, 0, 6, 7, 2] (by decide) rfl rfl ⟨3, rfl⟩) rfl rfl hl.1 rfl (lv_room (Nat.le_of_ble_eq_true rfl)) d_Parser_parseLink_24 ⟨Nat.le_of_ble_eq_true rfl, Nat.le_of_ble_eq_true rfl⟩) hP hD hS hA [3, 4, 1, 5, 0, 6, 7, 2] [] rfl rfl (by decide) (by decide) (fun r_31 u9 H locs w_30 hP hD hS => ?_)
      have hP : va_P (dC, dI) cl ([(qp, .inr (3, [.ref qc, .ref qt, .ref qf, .int (nI u9.1.1)])), (qt, .inr (1, [w0, w1, .ref qk, .ref ql, .ref qn, .ref qh, .ref qe])), (qk, .inl (cI, 1001, .inl fk)), (ql, .inl (cI, 1001, .inl (nF pp))), (qn, .inl (cI, 1001, .inl (nF nn))), (qh, .inl (cL, 1001, .inr (.inl fh))), (qe, .inl (cL, 1001, .inr (.inl fl))), (qf, .inr (2, [u9.1.2.1, u9.1.2.2]))] ++ va_pl (L ++ [q_6] ++ [nm1]) (gE cO u9.2)) H := hP
      have hD : va_D A ([(qp, .inr (3, [.ref qc, .ref qt, .ref qf, .int (nI u9.1.1)])), (qt, .inr (1, [w0, w1, .ref qk, .ref ql, .ref qn, .ref qh, .ref qe])), (qk, .inl (cI, 1001, .inl fk)), (ql, .inl (cI, 1001, .inl (nF pp))), (qn, .inl (cI, 1001, .inl (nF nn))), (qh, .inl (cL, 1001, .inr (.inl fh))), (qe, .inl (cL, 1001, .inr (.inl fl))), (qf, .inr (2, [u9.1.2.1, u9.1.2.2]))] ++ va_pl (L ++ [q_6] ++ [nm1]) (gE cO u9.2)) := hD
      obtain ⟨r_31e, u9e⟩ := w_30
      subst r_31e
      subst u9e
      have hL : gL (L ++ [q_6] ++ [nm1]) (prg fk pp nn q_6 (a + 1) v0 v1 G1).2.2 := fun b h9 => hL b (by rw [prg_fr.1] at h9; exact h9)
      rw [prg_c.2] at hP hD
      by_cases hr1 : (prc fk pp (a + 1) v0 v1).1 = true
      · have hb0 := prc_t hr1
        rw [hb0.1] at hP hD
        have hb1 := hb0.2.2 (by omega)
        have hb2 := hb0.2.1
        generalize hbe : (prc fk pp (a + 1) v0 v1).2.1 = b0 at hP hD hb0 hb1 hb2
        have is1 := prg_fr.2.2 _ _ is1 (show (prg fk pp nn q_6 (a + 1) v0 v1 G1).1 = true by rw [prg_c.1]; exact hr1)
        have hfr : ∀ b, b ≠ q_6 → gs G1 (prg fk pp nn q_6 (a + 1) v0 v1 G1).2.2 b := prg_fr.2.1
        have hP : va_P (dC, dI) cl ([(qp, .inr (3, [.ref qc, .ref qt, .ref qf, .int (nI b0)])), (qt, .inr (1, [w0, w1, .ref qk, .ref ql, .ref qn, .ref qh, .ref qe])), (qk, .inl (cI, 1001, .inl fk)), (ql, .inl (cI, 1001, .inl (nF pp))), (qn, .inl (cI, 1001, .inl (nF nn))), (qh, .inl (cL, 1001, .inr (.inl fh))), (qe, .inl (cL, 1001, .inr (.inl fl))), (qf, .inr (2, [v0, v1]))] ++ va_pl (L ++ [q_6] ++ [nm1]) (gE cO ((prg fk pp nn q_6 (a + 1) v0 v1 G1).2.2))) H := hP
        have hD : va_D A ([(qp, .inr (3, [.ref qc, .ref qt, .ref qf, .int (nI b0)])), (qt, .inr (1, [w0, w1, .ref qk, .ref ql, .ref qn, .ref qh, .ref qe])), (qk, .inl (cI, 1001, .inl fk)), (ql, .inl (cI, 1001, .inl (nF pp))), (qn, .inl (cI, 1001, .inl (nF nn))), (qh, .inl (cL, 1001, .inr (.inl fh))), (qe, .inl (cL, 1001, .inr (.inl fl))), (qf, .inr (2, [v0, v1]))] ++ va_pl (L ++ [q_6] ++ [nm1]) (gE cO ((prg fk pp nn q_6 (a + 1) v0 v1 G1).2.2))) := hD
        have fo : ∀ b, G.1 b ≠ 0 → gs G (prg fk pp nn q_6 (a + 1) v0 v1 G1).2.2 b := fun b h9 => (fo b h9).tr (hfr b (fun e9 => h9 (by rw [e9]; exact fre1z)))
        have in1 := in1.keep (hfr nm1 (Ne.symm hqn1))
        have g_c := fo c0 (by rw [hc]; decide)
        have g_ck := g_c.1.trans hc
        have g_p := fo p0 (by rw [hp0]; decide)
        have g_pk := g_p.1.trans hp0
        have l_lp := LSx_old (show LSx t0 G lp _ from h_l_lp) fo
        have l_li := LSx_old (show LSx t0 G li _ from h_l_li) fo
        have l_lk := LSx_old (show LSx t0 G lk _ from h_l_lk) fo
        generalize (prg fk pp nn q_6 (a + 1) v0 v1 G1).2.2 = G2 at hP hD hL is1 in1 fo g_c g_ck g_p g_pk l_lp l_li l_lk
        clear hfr
        refine nv_bif_eq (tgt := 39) hx hb d_Parser_parseLink_27 (by decide) (fun c_32 => ?_) (fun c_32 => ?_)
        · exact absurd ((prg_c.1.trans hr1).symm.trans c_32) (by decide)
        · refine lv_aload_n hx hb d_Parser_parseLink_30 rfl (lv_at hl 1 rfl) ?_
          refine lv_bipush (v := nI 61) hx hb d_Parser_parseLink_31 (by decide) ?_
          refine we_i (cx := [(qp, .inr (3, [.ref qc, .ref qt, .ref qf, .int (nI b0)])), (qt, .inr (1, [w0, w1, .ref qk, .ref ql, .ref qn, .ref qh, .ref qe])), (qk, .inl (cI, 1001, .inl fk)), (ql, .inl (cI, 1001, .inl (nF pp))), (qf, .inr (2, [v0, v1]))]) (wr := [(qn, .inl (cI, 1001, .inl (nF nn))), (qh, .inl (cL, 1001, .inr (.inl fh))), (qe, .inl (cL, 1001, .inr (.inl fl)))]) (pl := va_pl (L ++ [q_6] ++ [nm1]) (gE cO G2)) (va_runV (As := [.int (nI 61)]) (rest := []) ⟨hx, hb, hml, hown, hts⟩ (c_Parser_want l dC dI cB cI cL cZ cC cO qp qc qt qf qk ql v0 v1 fk (nF pp) b0 (nI 61) _ (by omega)) (cwV 1 hts (good_V k_529 k_531 s_Parser_want k_4 k_532) rfl rfl rfl (by decide +kernel) ⟨Nat.le_of_ble_eq_true rfl, Nat.le_of_ble_eq_true rfl⟩) (wc_preV (k0 := 0) (ci := 3) (r := (R_Parser, F_Parser, 4)) hK hP hD hS hA hF [0, 1, 2, 3, 7] (by decide) rfl rfl rfl) rfl rfl hl.1 rfl (lv_room (Nat.le_of_ble_eq_true rfl)) d_Parser_parseLink_33 ⟨Nat.le_of_ble_eq_true rfl, Nat.le_of_ble_eq_true rfl⟩) hP hD hS hA [0, 1, 2, 3, 7] [4, 5, 6] rfl rfl (by decide) (by decide) (fun r_36 u_34 H locs w_35 hP hD hS => ?_)
          have hP : va_P (dC, dI) cl ([(qn, .inl (cI, 1001, .inl (nF nn))), (qh, .inl (cL, 1001, .inr (.inl fh))), (qe, .inl (cL, 1001, .inr (.inl fl))), (qp, .inr (3, [.ref qc, .ref qt, .ref qf, .int (nI u_34.1)])), (qt, .inr (1, [w0, w1, .ref qk, .ref ql, .ref qn, .ref qh, .ref qe])), (qk, .inl (cI, 1001, .inl fk)), (ql, .inl (cI, 1001, .inl (nF pp))), (qf, .inr (2, [u_34.2.1, u_34.2.2]))] ++ va_pl (L ++ [q_6] ++ [nm1]) (gE cO G2)) H := hP
          have hD : va_D A ([(qn, .inl (cI, 1001, .inl (nF nn))), (qh, .inl (cL, 1001, .inr (.inl fh))), (qe, .inl (cL, 1001, .inr (.inl fl))), (qp, .inr (3, [.ref qc, .ref qt, .ref qf, .int (nI u_34.1)])), (qt, .inr (1, [w0, w1, .ref qk, .ref ql, .ref qn, .ref qh, .ref qe])), (qk, .inl (cI, 1001, .inl fk)), (ql, .inl (cI, 1001, .inl (nF pp))), (qf, .inr (2, [u_34.2.1, u_34.2.2]))] ++ va_pl (L ++ [q_6] ++ [nm1]) (gE cO G2)) := hD
          obtain ⟨r_36e, u_34e⟩ := w_35
          subst r_36e
          by_cases tk_33 : wt_ok fk b0 (nI 61) = true
          · rw [wt_T tk_33] at u_34e
            subst u_34e
            have hb_tk_33 : b0 < 1000 := wt_lt tk_33
            have hP : va_P (dC, dI) cl ([(qn, .inl (cI, 1001, .inl (nF nn))), (qh, .inl (cL, 1001, .inr (.inl fh))), (qe, .inl (cL, 1001, .inr (.inl fl))), (qp, .inr (3, [.ref qc, .ref qt, .ref qf, .int (nI (b0 + 1))])), (qt, .inr (1, [w0, w1, .ref qk, .ref ql, .ref qn, .ref qh, .ref qe])), (qk, .inl (cI, 1001, .inl fk)), (ql, .inl (cI, 1001, .inl (nF pp))), (qf, .inr (2, [v0, v1]))] ++ va_pl (L ++ [q_6] ++ [nm1]) (gE cO G2)) H := hP
            have hD : va_D A ([(qn, .inl (cI, 1001, .inl (nF nn))), (qh, .inl (cL, 1001, .inr (.inl fh))), (qe, .inl (cL, 1001, .inr (.inl fl))), (qp, .inr (3, [.ref qc, .ref qt, .ref qf, .int (nI (b0 + 1))])), (qt, .inr (1, [w0, w1, .ref qk, .ref ql, .ref qn, .ref qh, .ref qe])), (qk, .inl (cI, 1001, .inl fk)), (ql, .inl (cI, 1001, .inl (nF pp))), (qf, .inr (2, [v0, v1]))] ++ va_pl (L ++ [q_6] ++ [nm1]) (gE cO G2)) := hD
            refine nv_bif_ne (tgt := 41) hx hb d_Parser_parseLink_36 (by decide) (fun c_37 => ?_) (fun c_37 => ?_)
            · refine lv_aload_n hx hb d_Parser_parseLink_41 rfl (lv_at hl 1 rfl) ?_
              refine lv_bipush (v := nI 10) hx hb d_Parser_parseLink_42 (by decide) ?_
              refine we_i (cx := [(qp, .inr (3, [.ref qc, .ref qt, .ref qf, .int (nI (b0 + 1))])), (qt, .inr (1, [w0, w1, .ref qk, .ref ql, .ref qn, .ref qh, .ref qe])), (qk, .inl (cI, 1001, .inl fk))]) (wr := [(qn, .inl (cI, 1001, .inl (nF nn))), (qh, .inl (cL, 1001, .inr (.inl fh))), (qe, .inl (cL, 1001, .inr (.inl fl))), (ql, .inl (cI, 1001, .inl (nF pp))), (qf, .inr (2, [v0, v1]))]) (pl := va_pl (L ++ [q_6] ++ [nm1]) (gE cO G2)) (va_runV (As := [.int (nI 10)]) (rest := []) ⟨hx, hb, hml, hown, hts⟩ (c_Parser_sees l dC dI cB cI cL cZ cC cO qp qc qt qf qk ql fk (b0 + 1) (nI 10) _ (by omega)) (cwV 1 hts (good_V k_642 k_644 s_Parser_sees k_4 k_645) rfl rfl rfl (by decide +kernel) ⟨Nat.le_of_ble_eq_true rfl, Nat.le_of_ble_eq_true rfl⟩) (wc_preV (k0 := 3) (ci := 3) (r := (R_Parser, F_Parser, 4)) hK hP hD hS hA hF [3, 4, 5] (by decide) rfl rfl rfl) rfl rfl hl.1 rfl (lv_room (Nat.le_of_ble_eq_true rfl)) d_Parser_parseLink_44 ⟨Nat.le_of_ble_eq_true rfl, Nat.le_of_ble_eq_true rfl⟩) hP hD hS hA [3, 4, 5] [0, 1, 2, 6, 7] rfl rfl (by decide) (by decide) (fun r_39 _ H locs w_38 hP hD hS => ?_)
              have hP : va_P (dC, dI) cl ([(qn, .inl (cI, 1001, .inl (nF nn))), (qh, .inl (cL, 1001, .inr (.inl fh))), (qe, .inl (cL, 1001, .inr (.inl fl))), (ql, .inl (cI, 1001, .inl (nF pp))), (qf, .inr (2, [v0, v1])), (qp, .inr (3, [.ref qc, .ref qt, .ref qf, .int (nI (b0 + 1))])), (qt, .inr (1, [w0, w1, .ref qk, .ref ql, .ref qn, .ref qh, .ref qe])), (qk, .inl (cI, 1001, .inl fk))] ++ va_pl (L ++ [q_6] ++ [nm1]) (gE cO G2)) H := hP
              have hD : va_D A ([(qn, .inl (cI, 1001, .inl (nF nn))), (qh, .inl (cL, 1001, .inr (.inl fh))), (qe, .inl (cL, 1001, .inr (.inl fl))), (ql, .inl (cI, 1001, .inl (nF pp))), (qf, .inr (2, [v0, v1])), (qp, .inr (3, [.ref qc, .ref qt, .ref qf, .int (nI (b0 + 1))])), (qt, .inr (1, [w0, w1, .ref qk, .ref ql, .ref qn, .ref qh, .ref qe])), (qk, .inl (cI, 1001, .inl fk))] ++ va_pl (L ++ [q_6] ++ [nm1]) (gE cO G2)) := hD
              subst w_38
              by_cases se_40 : fk (b0 + 1) = nI 10
              · have se_40d : decide (fk (b0 + 1) = nI 10) = true := by simp [se_40]
                have hbt : b0 + 1 < 1000 := by
                  rcases Nat.lt_or_ge (b0 + 1) 1000 with q9 | q9
                  · exact q9
                  · exact absurd (by rw [show 1000 = b0 + 1 by omega]; first | exact Or.inl se_40 | exact Or.inr se_40) hk10
                refine nv_bif_ne (tgt := 59) hx hb d_Parser_parseLink_47 (by decide) (fun c_41 => ?_) (fun c_41 => ?_)
                · refine lv_aload_n hx hb d_Parser_parseLink_59 rfl (lv_at hl 1 rfl) ?_
                  refine lv_bipush (v := nI 10) hx hb d_Parser_parseLink_60 (by decide) ?_
                  refine we_i (cx := [(qp, .inr (3, [.ref qc, .ref qt, .ref qf, .int (nI (b0 + 1))])), (qt, .inr (1, [w0, w1, .ref qk, .ref ql, .ref qn, .ref qh, .ref qe])), (qk, .inl (cI, 1001, .inl fk))]) (wr := [(qn, .inl (cI, 1001, .inl (nF nn))), (qh, .inl (cL, 1001, .inr (.inl fh))), (qe, .inl (cL, 1001, .inr (.inl fl))), (ql, .inl (cI, 1001, .inl (nF pp))), (qf, .inr (2, [v0, v1]))]) (pl := va_pl (L ++ [q_6] ++ [nm1]) (gE cO G2)) (va_runV (As := [.int (nI 10)]) (rest := []) ⟨hx, hb, hml, hown, hts⟩ (c_Parser_sees l dC dI cB cI cL cZ cC cO qp qc qt qf qk ql fk (b0 + 1) (nI 10) _ (by omega)) (cwV 1 hts (good_V k_642 k_644 s_Parser_sees k_4 k_645) rfl rfl rfl (by decide +kernel) ⟨Nat.le_of_ble_eq_true rfl, Nat.le_of_ble_eq_true rfl⟩) (wc_preV (k0 := 5) (ci := 3) (r := (R_Parser, F_Parser, 4)) hK hP hD hS hA hF [5, 6, 7] (by decide) rfl rfl rfl) rfl rfl hl.1 rfl (lv_room (Nat.le_of_ble_eq_true rfl)) d_Parser_parseLink_62 ⟨Nat.le_of_ble_eq_true rfl, Nat.le_of_ble_eq_true rfl⟩) hP hD hS hA [5, 6, 7] [0, 1, 2, 3, 4] rfl rfl (by decide) (by decide) (fun r_43 _ H locs w_42 hP hD hS => ?_)
                  have hP : va_P (dC, dI) cl ([(qn, .inl (cI, 1001, .inl (nF nn))), (qh, .inl (cL, 1001, .inr (.inl fh))), (qe, .inl (cL, 1001, .inr (.inl fl))), (ql, .inl (cI, 1001, .inl (nF pp))), (qf, .inr (2, [v0, v1])), (qp, .inr (3, [.ref qc, .ref qt, .ref qf, .int (nI (b0 + 1))])), (qt, .inr (1, [w0, w1, .ref qk, .ref ql, .ref qn, .ref qh, .ref qe])), (qk, .inl (cI, 1001, .inl fk))] ++ va_pl (L ++ [q_6] ++ [nm1]) (gE cO G2)) H := hP
                  have hD : va_D A ([(qn, .inl (cI, 1001, .inl (nF nn))), (qh, .inl (cL, 1001, .inr (.inl fh))), (qe, .inl (cL, 1001, .inr (.inl fl))), (ql, .inl (cI, 1001, .inl (nF pp))), (qf, .inr (2, [v0, v1])), (qp, .inr (3, [.ref qc, .ref qt, .ref qf, .int (nI (b0 + 1))])), (qt, .inr (1, [w0, w1, .ref qk, .ref ql, .ref qn, .ref qh, .ref qe])), (qk, .inl (cI, 1001, .inl fk))] ++ va_pl (L ++ [q_6] ++ [nm1]) (gE cO G2)) := hD
                  subst w_42
                  refine nv_bif_eq (tgt := 72) hx hb d_Parser_parseLink_65 (by decide) (fun c_44 => ?_) (fun c_44 => ?_)
                  · exact absurd (se_40d.symm.trans c_44) (by decide)
                  · refine lv_iconst (v := nI 1) hx hb d_Parser_parseLink_68 (by decide) ?_
                    refine lv_goto (tgt := 73) hx hb d_Parser_parseLink_69 (by decide) ?_
                    refine lv_istore (lv' := [(4, .int (nI 1)), (3, .ref q_6), (0, .ref qp), (1, .ref c0), (2, .ref p0)]) hx hb d_Parser_parseLink_73 hl (by decide) rfl (fun ls hl => ?_)
                    refine pq_new (ci := 11) (fs := [.null, .int (nI 0), .int (nI 0), .int (nI 0), .int (nI 0)]) (C := R_Side) (T := F_Side) (N := 5) (fn := fun q9 => gE cO (g0 G2 q9 3)) hx hb hts i_Side t_Side t_Side_ok hown (hts _ k_607) (hts _ k_608) (hts _ k_21) hK hP hD hS hA rfl (fun j hj => by rcases (show j = 0 ∨ j = 1 ∨ j = 2 ∨ j = 3 ∨ j = 4 by omega) with rfl | rfl | rfl | rfl | rfl <;> rfl) (Nat.le_of_ble_eq_true rfl) (Nat.le_of_ble_eq_true rfl) (fun q9 => nE_3 (G := G2) q9) d_Parser_parseLink_75 (fun q_45 H nq_45 hP hD hS => ?_)
                    have kf_46 : (g0 G2 q_45 3).1 q_6 = 3 := (g0_k hL is1.1 (by decide) nq_45)
                    have ne_47 : q_6 ≠ q_45 := g0_ne hL is1.1 (by decide) nq_45
                    have kf_48 : (g0 G2 q_45 3).1 nm1 = 1 := (g0_k hL in1.1 (by decide) nq_45)
                    have ne_49 : nm1 ≠ q_45 := g0_ne hL in1.1 (by decide) nq_45
                    have kf_50 : (g0 G2 q_45 3).1 c0 = 6 := (g0_k hL g_ck (by decide) nq_45)
                    have ne_51 : c0 ≠ q_45 := g0_ne hL g_ck (by decide) nq_45
                    have kf_52 : (g0 G2 q_45 3).1 p0 = 5 := (g0_k hL g_pk (by decide) nq_45)
                    have ne_53 : p0 ≠ q_45 := g0_ne hL g_pk (by decide) nq_45
                    have kf_54 : (g0 G2 q_45 3).1 lp = 7 := (g0_k hL l_lp.k.1 (by decide) nq_45)
                    have ne_55 : lp ≠ q_45 := g0_ne hL l_lp.k.1 (by decide) nq_45
                    have kf_56 : (g0 G2 q_45 3).1 li = 7 := (g0_k hL l_li.k.1 (by decide) nq_45)
                    have ne_57 : li ≠ q_45 := g0_ne hL l_li.k.1 (by decide) nq_45
                    have kf_58 : (g0 G2 q_45 3).1 lk = 7 := (g0_k hL l_lk.k.1 (by decide) nq_45)
                    have ne_59 : lk ≠ q_45 := g0_ne hL l_lk.k.1 (by decide) nq_45
                    have fa_60 : (g0 G2 q_45 3).2.2.2.2.2 c0 3 = some lp := (congrFun ((gs_0 ne_51).2.2.2.2.2) 3).trans (show _ = some lp by rw [g_c.2.2.2.2.2]; exact hpl)
                    have fa_61 : (g0 G2 q_45 3).2.2.2.2.2 c0 4 = some li := (congrFun ((gs_0 ne_51).2.2.2.2.2) 4).trans (show _ = some li by rw [g_c.2.2.2.2.2]; exact hil)
                    have fa_62 : (g0 G2 q_45 3).2.2.2.2.2 p0 1 = some lk := (congrFun ((gs_0 ne_53).2.2.2.2.2) 1).trans (show _ = some lk by rw [g_p.2.2.2.2.2]; exact hlk)
                    have fa_63 : (g0 G2 q_45 3).2.2.2.2.2 q_6 0 = some nm1 := (congrFun ((gs_0 ne_47).2.2.2.2.2) 0).trans is1.2.1
                    have hL0 := hL
                    have hz9 : G2.1 q_45 = 0 := g0_n hL nq_45
                    replace hL := gL_new (a := q_45) (n := 3) hL
                    have hP : va_P (dC, dI) cl ([(qn, .inl (cI, 1001, .inl (nF nn))), (qh, .inl (cL, 1001, .inr (.inl fh))), (qe, .inl (cL, 1001, .inr (.inl fl))), (ql, .inl (cI, 1001, .inl (nF pp))), (qf, .inr (2, [v0, v1])), (qp, .inr (3, [.ref qc, .ref qt, .ref qf, .int (nI (b0 + 1))])), (qt, .inr (1, [w0, w1, .ref qk, .ref ql, .ref qn, .ref qh, .ref qe])), (qk, .inl (cI, 1001, .inl fk))] ++ va_pl (L ++ [q_6] ++ [nm1] ++ [q_45]) (gE cO (g0 G2 q_45 3))) H := hP
                    have hD : va_D A ([(qn, .inl (cI, 1001, .inl (nF nn))), (qh, .inl (cL, 1001, .inr (.inl fh))), (qe, .inl (cL, 1001, .inr (.inl fl))), (ql, .inl (cI, 1001, .inl (nF pp))), (qf, .inr (2, [v0, v1])), (qp, .inr (3, [.ref qc, .ref qt, .ref qf, .int (nI (b0 + 1))])), (qt, .inr (1, [w0, w1, .ref qk, .ref ql, .ref qn, .ref qh, .ref qe])), (qk, .inl (cI, 1001, .inl fk))] ++ va_pl (L ++ [q_6] ++ [nm1] ++ [q_45]) (gE cO (g0 G2 q_45 3))) := hD
                    refine lv_dup hx hb d_Parser_parseLink_78 rfl ?_
                    refine lv_aload_n hx hb d_Parser_parseLink_79 rfl (lv_at hl 2 rfl) ?_
                    have hzq2 : G2.1 q_45 = 0 := hz9
                    refine we_q (cx := [(qp, .inr (3, [.ref qc, .ref qt, .ref qf, .int (nI (b0 + 1))])), (qt, .inr (1, [w0, w1, .ref qk, .ref ql, .ref qn, .ref qh, .ref qe])), (ql, .inl (cI, 1001, .inl (nF pp))), (qh, .inl (cL, 1001, .inr (.inl fh))), (qe, .inl (cL, 1001, .inr (.inl fl)))]) (wr := [(qn, .inl (cI, 1001, .inl (nF nn))), (qf, .inr (2, [v0, v1])), (qk, .inl (cI, 1001, .inl fk))]) (pl := va_pl (L ++ [q_6] ++ [nm1] ++ [q_45]) (gE cO (g0 G2 q_45 3))) (va_runV (As := []) (rest := [.ref q_45, .ref q_45]) ⟨hx, hb, hml, hown, hts⟩ (c_Parser_takeName l dC dI cB cI cL cZ cC cO qp qt ql qh qe (nF pp) fh fl (b0 + 1) _ (by omega)) (cwV 0 hts (good_V k_543 k_545 s_Parser_takeName k_4 k_546) rfl rfl rfl (by decide +kernel) ⟨Nat.le_of_ble_eq_true rfl, Nat.le_of_ble_eq_true rfl⟩) (wc_preV (k0 := 5) (ci := 3) (r := (R_Parser, F_Parser, 4)) hK hP hD hS hA hF [5, 6, 3, 1, 2] (by decide) rfl rfl rfl) rfl rfl hl.1 rfl (lv_room (Nat.le_of_ble_eq_true rfl)) d_Parser_parseLink_80 ⟨Nat.le_of_ble_eq_true rfl, Nat.le_of_ble_eq_true rfl⟩) hP hD hS hA [5, 6, 3, 1, 2] [0, 4, 7] rfl rfl (by decide) (by decide) (fun r_65 nm2 H locs w_64 hP hD hS => ?_)
                    have hP : va_P (dC, dI) cl ([(qn, .inl (cI, 1001, .inl (nF nn))), (qf, .inr (2, [v0, v1])), (qk, .inl (cI, 1001, .inl fk)), (qp, .inr (3, [.ref qc, .ref qt, .ref qf, .int (nI (min (b0 + 1 + 1) 1000))])), (qt, .inr (1, [w0, w1, .ref qk, .ref ql, .ref qn, .ref qh, .ref qe])), (ql, .inl (cI, 1001, .inl (nF pp))), (qh, .inl (cL, 1001, .inr (.inl fh))), (qe, .inl (cL, 1001, .inr (.inl fl))), (nm2, .inr (7, [.long (fh (b0 + 1)), .long (fl (b0 + 1)), .int (nI (pp (b0 + 1)))]))] ++ va_pl (L ++ [q_6] ++ [nm1] ++ [q_45]) (gE cO (g0 G2 q_45 3))) H := hP
                    have hD : va_D A ([(qn, .inl (cI, 1001, .inl (nF nn))), (qf, .inr (2, [v0, v1])), (qk, .inl (cI, 1001, .inl fk)), (qp, .inr (3, [.ref qc, .ref qt, .ref qf, .int (nI (min (b0 + 1 + 1) 1000))])), (qt, .inr (1, [w0, w1, .ref qk, .ref ql, .ref qn, .ref qh, .ref qe])), (ql, .inl (cI, 1001, .inl (nF pp))), (qh, .inl (cL, 1001, .inr (.inl fh))), (qe, .inl (cL, 1001, .inr (.inl fl))), (nm2, .inr (7, [.long (fh (b0 + 1)), .long (fl (b0 + 1)), .int (nI (pp (b0 + 1)))]))] ++ va_pl (L ++ [q_6] ++ [nm1] ++ [q_45]) (gE cO (g0 G2 q_45 3))) := hD
                    subst w_64
                    obtain ⟨nnm2, hP, hD⟩ := pq_in (X := [(qn, .inl (cI, 1001, .inl (nF nn))), (qf, .inr (2, [v0, v1])), (qk, .inl (cI, 1001, .inl fk)), (qp, .inr (3, [.ref qc, .ref qt, .ref qf, .int (nI (min (b0 + 1 + 1) 1000))])), (qt, .inr (1, [w0, w1, .ref qk, .ref ql, .ref qn, .ref qh, .ref qe])), (ql, .inl (cI, 1001, .inl (nF pp))), (qh, .inl (cL, 1001, .inr (.inl fh))), (qe, .inl (cL, 1001, .inr (.inl fl)))]) hP hD
                    have hP : va_P (dC, dI) cl ([(qn, .inl (cI, 1001, .inl (nF nn))), (qf, .inr (2, [v0, v1])), (qk, .inl (cI, 1001, .inl fk)), (qp, .inr (3, [.ref qc, .ref qt, .ref qf, .int (nI (min (b0 + 1 + 1) 1000))])), (qt, .inr (1, [w0, w1, .ref qk, .ref ql, .ref qn, .ref qh, .ref qe])), (ql, .inl (cI, 1001, .inl (nF pp))), (qh, .inl (cL, 1001, .inr (.inl fh))), (qe, .inl (cL, 1001, .inr (.inl fl)))] ++ va_pl (L ++ [q_6] ++ [nm1] ++ [q_45] ++ [nm2]) (gE cO (nam (g0 G2 q_45 3) nm2 (fh (b0 + 1)) (fl (b0 + 1)) (some (pp (b0 + 1)))))) H := by rw [← namE]; exact hP
                    have hD : va_D A ([(qn, .inl (cI, 1001, .inl (nF nn))), (qf, .inr (2, [v0, v1])), (qk, .inl (cI, 1001, .inl fk)), (qp, .inr (3, [.ref qc, .ref qt, .ref qf, .int (nI (min (b0 + 1 + 1) 1000))])), (qt, .inr (1, [w0, w1, .ref qk, .ref ql, .ref qn, .ref qh, .ref qe])), (ql, .inl (cI, 1001, .inl (nF pp))), (qh, .inl (cL, 1001, .inr (.inl fh))), (qe, .inl (cL, 1001, .inr (.inl fl)))] ++ va_pl (L ++ [q_6] ++ [nm1] ++ [q_45] ++ [nm2]) (gE cO (nam (g0 G2 q_45 3) nm2 (fh (b0 + 1)) (fl (b0 + 1)) (some (pp (b0 + 1)))))) := by rw [← namE]; exact hD
                    obtain ⟨z21, z22, z23⟩ := isN_new (q := nm2) (hh := fh (b0 + 1)) (tt := fl (b0 + 1)) (pl := some (pp (b0 + 1))) hL
                    have hq2 : (g0 G2 q_45 3).1 nm2 = 0 := g0_n hL nnm2
                    generalize nam (g0 G2 q_45 3) nm2 (fh (b0 + 1)) (fl (b0 + 1)) (some (pp (b0 + 1))) = T2 at hP hD z21 z22 z23
                    have hL := z22
                    rw [show min (b0 + 1 + 1) 1000 = b0 + 1 + 1 by omega] at hP hD
                    have hP : va_P (dC, dI) cl ([(qn, .inl (cI, 1001, .inl (nF nn))), (qf, .inr (2, [v0, v1])), (qk, .inl (cI, 1001, .inl fk)), (qp, .inr (3, [.ref qc, .ref qt, .ref qf, .int (nI ((b0 + 1) + 1))])), (qt, .inr (1, [w0, w1, .ref qk, .ref ql, .ref qn, .ref qh, .ref qe])), (ql, .inl (cI, 1001, .inl (nF pp))), (qh, .inl (cL, 1001, .inr (.inl fh))), (qe, .inl (cL, 1001, .inr (.inl fl)))] ++ va_pl (L ++ [q_6] ++ [nm1] ++ [q_45] ++ [nm2]) (gE cO T2)) H := hP
                    have hD : va_D A ([(qn, .inl (cI, 1001, .inl (nF nn))), (qf, .inr (2, [v0, v1])), (qk, .inl (cI, 1001, .inl fk)), (qp, .inr (3, [.ref qc, .ref qt, .ref qf, .int (nI ((b0 + 1) + 1))])), (qt, .inr (1, [w0, w1, .ref qk, .ref ql, .ref qn, .ref qh, .ref qe])), (ql, .inl (cI, 1001, .inl (nF pp))), (qh, .inl (cL, 1001, .inr (.inl fh))), (qe, .inl (cL, 1001, .inr (.inl fl)))] ++ va_pl (L ++ [q_6] ++ [nm1] ++ [q_45] ++ [nm2]) (gE cO T2)) := hD
                    have kf_66 : T2.1 q_6 = 3 := (z23 q_6 (fun e9 => absurd ((kf_46).symm.trans ((congrArg (g0 G2 q_45 3).1 e9).trans hq2)) (by decide))).1.trans kf_46
                    have kf_67 : T2.1 nm1 = 1 := (z23 nm1 (fun e9 => absurd ((kf_48).symm.trans ((congrArg (g0 G2 q_45 3).1 e9).trans hq2)) (by decide))).1.trans kf_48
                    have kf_68 : T2.1 c0 = 6 := (z23 c0 (fun e9 => absurd ((kf_50).symm.trans ((congrArg (g0 G2 q_45 3).1 e9).trans hq2)) (by decide))).1.trans kf_50
                    have kf_69 : T2.1 p0 = 5 := (z23 p0 (fun e9 => absurd ((kf_52).symm.trans ((congrArg (g0 G2 q_45 3).1 e9).trans hq2)) (by decide))).1.trans kf_52
                    have kf_70 : T2.1 lp = 7 := (z23 lp (fun e9 => absurd ((kf_54).symm.trans ((congrArg (g0 G2 q_45 3).1 e9).trans hq2)) (by decide))).1.trans kf_54
                    have kf_71 : T2.1 li = 7 := (z23 li (fun e9 => absurd ((kf_56).symm.trans ((congrArg (g0 G2 q_45 3).1 e9).trans hq2)) (by decide))).1.trans kf_56
                    have kf_72 : T2.1 lk = 7 := (z23 lk (fun e9 => absurd ((kf_58).symm.trans ((congrArg (g0 G2 q_45 3).1 e9).trans hq2)) (by decide))).1.trans kf_58
                    have kf_73 : T2.1 q_45 = 3 := (z23 q_45 (fun e9 => absurd (((g0_q G2 q_45 3)).symm.trans ((congrArg (g0 G2 q_45 3).1 e9).trans hq2)) (by decide))).1.trans (g0_q G2 q_45 3)
                    refine wd_v (cx := []) (wr := [(qn, .inl (cI, 1001, .inl (nF nn))), (qf, .inr (2, [v0, v1])), (qk, .inl (cI, 1001, .inl fk)), (qp, .inr (3, [.ref qc, .ref qt, .ref qf, .int (nI ((b0 + 1) + 1))])), (qt, .inr (1, [w0, w1, .ref qk, .ref ql, .ref qn, .ref qh, .ref qe])), (ql, .inl (cI, 1001, .inl (nF pp))), (qh, .inl (cL, 1001, .inr (.inl fh))), (qe, .inl (cL, 1001, .inr (.inl fl)))]) (pl := va_pl (L ++ [q_6] ++ [nm1] ++ [q_45] ++ [nm2]) (gE cO T2)) (va_runI (As := [.ref nm2]) (rest := [.ref q_45]) ⟨hx, hb, hml, hown, hts⟩ (p_Side_init l dC dI cB cI cL cZ cC cO (G := T2) q_45 nm2 t0 _ hL kf_73) (cwI 1 hts (good_c k_611) rfl rfl rfl (hts _ k_21) (hts _ k_609) (hts _ k_610) rfl (by decide +kernel) ⟨Nat.le_of_ble_eq_true rfl, Nat.le_of_ble_eq_true rfl⟩) (wd_preS hK hP hD hS hA hF hE [] (by decide) rfl) rfl rfl hl.1 rfl (lv_room (Nat.le_of_ble_eq_true rfl)) d_Parser_parseLink_83 ⟨Nat.le_of_ble_eq_true rfl, Nat.le_of_ble_eq_true rfl⟩) hP hD hS hA [] [0, 1, 2, 3, 4, 5, 6, 7] rfl rfl (by decide) (by decide) (fun _ H locs w_74 hP hD hS => ?_)
                    have hP : va_P (dC, dI) cl ([(qn, .inl (cI, 1001, .inl (nF nn))), (qf, .inr (2, [v0, v1])), (qk, .inl (cI, 1001, .inl fk)), (qp, .inr (3, [.ref qc, .ref qt, .ref qf, .int (nI ((b0 + 1) + 1))])), (qt, .inr (1, [w0, w1, .ref qk, .ref ql, .ref qn, .ref qh, .ref qe])), (ql, .inl (cI, 1001, .inl (nF pp))), (qh, .inl (cL, 1001, .inr (.inl fh))), (qe, .inl (cL, 1001, .inr (.inl fl)))] ++ va_pl (L ++ [q_6] ++ [nm1] ++ [q_45] ++ [nm2]) (gE cO (sid T2 q_45 nm2))) H := hP
                    have hD : va_D A ([(qn, .inl (cI, 1001, .inl (nF nn))), (qf, .inr (2, [v0, v1])), (qk, .inl (cI, 1001, .inl fk)), (qp, .inr (3, [.ref qc, .ref qt, .ref qf, .int (nI ((b0 + 1) + 1))])), (qt, .inr (1, [w0, w1, .ref qk, .ref ql, .ref qn, .ref qh, .ref qe])), (ql, .inl (cI, 1001, .inl (nF pp))), (qh, .inl (cL, 1001, .inr (.inl fh))), (qe, .inl (cL, 1001, .inr (.inl fl)))] ++ va_pl (L ++ [q_6] ++ [nm1] ++ [q_45] ++ [nm2]) (gE cO (sid T2 q_45 nm2))) := hD
                    have is2 := isS_of (nm := nm2) kf_73
                    have hqn2 : q_45 ≠ nm2 := fun e9 => by have q9 := kf_73; rw [e9, z21.1] at q9; cases q9
                    have in2 : isN (sid T2 q_45 nm2) nm2 _ _ _ := z21.keep (sid_gs (Ne.symm hqn2))
                    have hnm2 : G2.1 nm2 = 0 := by have q9 := hq2; rw [(gs_0 (Ne.symm hqn2)).1] at q9; exact q9
                    have hfr : ∀ b, G2.1 b ≠ 0 → gs G2 (sid T2 q_45 nm2) b := fun b h9 => ((gs_0 (fun e9 => h9 (by rw [e9]; exact hzq2))).tr (z23 b (fun e9 => h9 (by rw [e9]; exact hnm2)))).tr (sid_gs (fun e9 => h9 (by rw [e9]; exact hzq2)))
                    have hL : gL (L ++ [q_6] ++ [nm1] ++ [q_45] ++ [nm2]) (sid T2 q_45 nm2) := hL
                    generalize sid T2 q_45 nm2 = G3 at hP hD is2 in2 hfr hL
                    have fre2z : G.1 q_45 = 0 := Classical.byContradiction (fun h9 => h9 ((fo q_45 h9).1.symm.trans hzq2))
                    have fre2s : frh G q_45 := frh.fr (frh0 hzq2) (LFs_of fo (fun _ => False))
                    have fre2n : frh G nm2 := frh.fr (frh0 hnm2) (LFs_of fo (fun _ => False))
                    have hs12 : q_6 ≠ q_45 := fun e9 => by have q9 := is1.1; rw [e9, hzq2] at q9; cases q9
                    have hn12 : nm1 ≠ nm2 := fun e9 => by have q9 := in1.1; rw [e9, hnm2] at q9; cases q9
                    have fo : ∀ b, G.1 b ≠ 0 → gs G G3 b := (fun b h9 => (fo b h9).tr (hfr b (by rw [(fo b h9).1]; exact h9)))
                    have is1 := is1.keep (hfr q_6 (by rw [is1.1]; decide))
                    have in1 := in1.keep (hfr nm1 (by rw [in1.1]; decide))
                    have g_c := fo c0 (by rw [hc]; decide)
                    have g_ck := g_c.1.trans hc
                    have g_p := fo p0 (by rw [hp0]; decide)
                    have g_pk := g_p.1.trans hp0
                    have l_lp := LSx_old l_lp hfr
                    have l_li := LSx_old l_li hfr
                    have l_lk := LSx_old l_lk hfr
                    refine lv_astore (lv' := [(5, .ref q_45), (4, .int (nI 1)), (3, .ref q_6), (0, .ref qp), (1, .ref c0), (2, .ref p0)]) hx hb d_Parser_parseLink_86 hl (by decide) rfl (fun ls hl => ?_)
                    refine lv_aload hx hb d_Parser_parseLink_88 (lv_at hl 0 rfl) ?_
                    refine lv_iload hx hb d_Parser_parseLink_90 (lv_at hl 1 rfl) ?_
                    refine pq_put (D := (dC, dI)) (ci := 11) (v := .int (oI (some 1))) (ty := .int) (C := R_Side) (T := F_Side) (N := 5) hx hb hts i_Side t_Side t_Side_ok n_Side hown hK hP hD hS (gL_m hL is2.1 (by decide)) (gE_3 (G := G3) is2.1) rfl 1 (by decide) (hts _ k_618) (fun _ h9 => h9) rfl (by decide +kernel) rfl rfl (Nat.le_of_ble_eq_true rfl) (uE_3_1 (G := G3) (v := some 1) is2.1) d_Parser_parseLink_92 (fun H locs hP hD hS => ?_)
                    have hP : va_P (dC, dI) cl ([(qn, .inl (cI, 1001, .inl (nF nn))), (qf, .inr (2, [v0, v1])), (qk, .inl (cI, 1001, .inl fk)), (qp, .inr (3, [.ref qc, .ref qt, .ref qf, .int (nI ((b0 + 1) + 1))])), (qt, .inr (1, [w0, w1, .ref qk, .ref ql, .ref qn, .ref qh, .ref qe])), (ql, .inl (cI, 1001, .inl (nF pp))), (qh, .inl (cL, 1001, .inr (.inl fh))), (qe, .inl (cL, 1001, .inr (.inl fl)))] ++ va_pl (L ++ [q_6] ++ [nm1] ++ [q_45] ++ [nm2]) (gE cO (gO G3 q_45 1 (some 1)))) H := hP
                    have hD : va_D A ([(qn, .inl (cI, 1001, .inl (nF nn))), (qf, .inr (2, [v0, v1])), (qk, .inl (cI, 1001, .inl fk)), (qp, .inr (3, [.ref qc, .ref qt, .ref qf, .int (nI ((b0 + 1) + 1))])), (qt, .inr (1, [w0, w1, .ref qk, .ref ql, .ref qn, .ref qh, .ref qe])), (ql, .inl (cI, 1001, .inl (nF pp))), (qh, .inl (cL, 1001, .inr (.inl fh))), (qe, .inl (cL, 1001, .inr (.inl fl)))] ++ va_pl (L ++ [q_6] ++ [nm1] ++ [q_45] ++ [nm2]) (gE cO (gO G3 q_45 1 (some 1)))) := hD
                    have is2 := isS_c (x := 1) is2
                    have hfr : ∀ b, b ≠ q_45 → gs G3 (gO G3 q_45 1 (some 1)) b := fun b h9 => gs_O h9
                    have hL : gL (L ++ [q_6] ++ [nm1] ++ [q_45] ++ [nm2]) (gO G3 q_45 1 (some 1)) := hL
                    have fo : ∀ b, G.1 b ≠ 0 → gs G (gO G3 q_45 1 (some 1)) b := fun b h9 => (fo b h9).tr (hfr b (fun e9 => h9 (by rw [e9]; exact fre2z)))
                    have is1 := is1.keep (hfr q_6 hs12)
                    have in1 := in1.keep (hfr nm1 (fun e9 => by have q9 := in1.1; rw [e9, is2.1] at q9; cases q9))
                    have in2 := in2.keep (hfr nm2 (Ne.symm hqn2))
                    have g_c := fo c0 (by rw [hc]; decide)
                    have g_ck := g_c.1.trans hc
                    have g_p := fo p0 (by rw [hp0]; decide)
                    have g_pk := g_p.1.trans hp0
                    have l_lp := LSx_old (show LSx t0 G lp _ from h_l_lp) fo
                    have l_li := LSx_old (show LSx t0 G li _ from h_l_li) fo
                    have l_lk := LSx_old (show LSx t0 G lk _ from h_l_lk) fo
                    generalize gO G3 q_45 1 (some 1) = G4 at hP hD hL is1 in1 is2 in2 fo g_c g_ck g_p g_pk l_lp l_li l_lk
                    clear hfr
                    refine lv_aload_n hx hb d_Parser_parseLink_95 rfl (lv_at hl 5 rfl) ?_
                    refine pq_get (D := (dC, dI)) (ci := 10) (v := .ref lk) (C := R_Part) (T := F_Part) (N := 3) hx hb hts i_Part hown hK hP (gL_m hL g_pk (by decide)) (gE_5 (G := G4) g_pk) rfl 1 (by decide) (hts _ k_588) (fun _ h9 => h9) (congrArg (fun z9 => some (va_rf z9)) (show _ = some lk by rw [g_p.2.2.2.2.2]; exact hlk)) d_Parser_parseLink_96 ?_
                    refine pq_new (ci := 12) (fs := [.null, .null, .null, .null]) (C := R_Link) (T := F_Link) (N := 4) (fn := fun q9 => gE cO (g0 G4 q9 4)) hx hb hts i_Link t_Link t_Link_ok hown (hts _ k_646) (hts _ k_647) (hts _ k_22) hK hP hD hS hA rfl (fun j hj => by rcases (show j = 0 ∨ j = 1 ∨ j = 2 ∨ j = 3 by omega) with rfl | rfl | rfl | rfl <;> rfl) (Nat.le_of_ble_eq_true rfl) (Nat.le_of_ble_eq_true rfl) (fun q9 => nE_4 (G := G4) q9) d_Parser_parseLink_99 (fun q_76 H nq_76 hP hD hS => ?_)
                    have kf_77 : (g0 G4 q_76 4).1 q_6 = 3 := (g0_k hL is1.1 (by decide) nq_76)
                    have ne_78 : q_6 ≠ q_76 := g0_ne hL is1.1 (by decide) nq_76
                    have kf_79 : (g0 G4 q_76 4).1 nm1 = 1 := (g0_k hL in1.1 (by decide) nq_76)
                    have ne_80 : nm1 ≠ q_76 := g0_ne hL in1.1 (by decide) nq_76
                    have kf_81 : (g0 G4 q_76 4).1 q_45 = 3 := (g0_k hL is2.1 (by decide) nq_76)
                    have ne_82 : q_45 ≠ q_76 := g0_ne hL is2.1 (by decide) nq_76
                    have kf_83 : (g0 G4 q_76 4).1 nm2 = 1 := (g0_k hL in2.1 (by decide) nq_76)
                    have ne_84 : nm2 ≠ q_76 := g0_ne hL in2.1 (by decide) nq_76
                    have kf_85 : (g0 G4 q_76 4).1 c0 = 6 := (g0_k hL g_ck (by decide) nq_76)
                    have ne_86 : c0 ≠ q_76 := g0_ne hL g_ck (by decide) nq_76
                    have kf_87 : (g0 G4 q_76 4).1 p0 = 5 := (g0_k hL g_pk (by decide) nq_76)
                    have ne_88 : p0 ≠ q_76 := g0_ne hL g_pk (by decide) nq_76
                    have kf_89 : (g0 G4 q_76 4).1 lp = 7 := (g0_k hL l_lp.k.1 (by decide) nq_76)
                    have ne_90 : lp ≠ q_76 := g0_ne hL l_lp.k.1 (by decide) nq_76
                    have kf_91 : (g0 G4 q_76 4).1 li = 7 := (g0_k hL l_li.k.1 (by decide) nq_76)
                    have ne_92 : li ≠ q_76 := g0_ne hL l_li.k.1 (by decide) nq_76
                    have kf_93 : (g0 G4 q_76 4).1 lk = 7 := (g0_k hL l_lk.k.1 (by decide) nq_76)
                    have ne_94 : lk ≠ q_76 := g0_ne hL l_lk.k.1 (by decide) nq_76
                    have fa_95 : (g0 G4 q_76 4).2.2.2.2.2 c0 3 = some lp := (congrFun ((gs_0 ne_86).2.2.2.2.2) 3).trans (show _ = some lp by rw [g_c.2.2.2.2.2]; exact hpl)
                    have fa_96 : (g0 G4 q_76 4).2.2.2.2.2 c0 4 = some li := (congrFun ((gs_0 ne_86).2.2.2.2.2) 4).trans (show _ = some li by rw [g_c.2.2.2.2.2]; exact hil)
                    have fa_97 : (g0 G4 q_76 4).2.2.2.2.2 p0 1 = some lk := (congrFun ((gs_0 ne_88).2.2.2.2.2) 1).trans (show _ = some lk by rw [g_p.2.2.2.2.2]; exact hlk)
                    have fa_98 : (g0 G4 q_76 4).2.2.2.2.2 q_6 0 = some nm1 := (congrFun ((gs_0 ne_78).2.2.2.2.2) 0).trans is1.2.1
                    have fa_99 : (g0 G4 q_76 4).2.2.2.2.2 q_45 0 = some nm2 := (congrFun ((gs_0 ne_82).2.2.2.2.2) 0).trans is2.2.1
                    have fa_100 : (g0 G4 q_76 4).2.2.1 nm2 2 = some (pp (b0 + 1)) := (congrFun ((gs_0 ne_84).2.2.1) 2).trans in2.2.2.2
                    have hL0 := hL
                    have hz9 : G4.1 q_76 = 0 := g0_n hL nq_76
                    replace hL := gL_new (a := q_76) (n := 4) hL
                    have hP : va_P (dC, dI) cl ([(qn, .inl (cI, 1001, .inl (nF nn))), (qf, .inr (2, [v0, v1])), (qk, .inl (cI, 1001, .inl fk)), (qp, .inr (3, [.ref qc, .ref qt, .ref qf, .int (nI ((b0 + 1) + 1))])), (qt, .inr (1, [w0, w1, .ref qk, .ref ql, .ref qn, .ref qh, .ref qe])), (ql, .inl (cI, 1001, .inl (nF pp))), (qh, .inl (cL, 1001, .inr (.inl fh))), (qe, .inl (cL, 1001, .inr (.inl fl)))] ++ va_pl (L ++ [q_6] ++ [nm1] ++ [q_45] ++ [nm2] ++ [q_76]) (gE cO (g0 G4 q_76 4))) H := hP
                    have hD : va_D A ([(qn, .inl (cI, 1001, .inl (nF nn))), (qf, .inr (2, [v0, v1])), (qk, .inl (cI, 1001, .inl fk)), (qp, .inr (3, [.ref qc, .ref qt, .ref qf, .int (nI ((b0 + 1) + 1))])), (qt, .inr (1, [w0, w1, .ref qk, .ref ql, .ref qn, .ref qh, .ref qe])), (ql, .inl (cI, 1001, .inl (nF pp))), (qh, .inl (cL, 1001, .inr (.inl fh))), (qe, .inl (cL, 1001, .inr (.inl fl)))] ++ va_pl (L ++ [q_6] ++ [nm1] ++ [q_45] ++ [nm2] ++ [q_76]) (gE cO (g0 G4 q_76 4))) := hD
                    refine lv_dup hx hb d_Parser_parseLink_102 rfl ?_
                    refine lv_aload_n hx hb d_Parser_parseLink_103 rfl (lv_at hl 2 rfl) ?_
                    refine lv_aload hx hb d_Parser_parseLink_104 (lv_at hl 0 rfl) ?_
                    refine lv_null hx hb d_Parser_parseLink_106 ?_
                    have hzk : G4.1 q_76 = 0 := hz9
                    refine wd_v (cx := []) (wr := [(qn, .inl (cI, 1001, .inl (nF nn))), (qf, .inr (2, [v0, v1])), (qk, .inl (cI, 1001, .inl fk)), (qp, .inr (3, [.ref qc, .ref qt, .ref qf, .int (nI ((b0 + 1) + 1))])), (qt, .inr (1, [w0, w1, .ref qk, .ref ql, .ref qn, .ref qh, .ref qe])), (ql, .inl (cI, 1001, .inl (nF pp))), (qh, .inl (cL, 1001, .inr (.inl fh))), (qe, .inl (cL, 1001, .inr (.inl fl)))]) (pl := va_pl (L ++ [q_6] ++ [nm1] ++ [q_45] ++ [nm2] ++ [q_76]) (gE cO (g0 G4 q_76 4))) (va_runI (As := [.ref q_6, .ref q_45, .null]) (rest := [.ref q_76, .ref lk]) ⟨hx, hb, hml, hown, hts⟩ (p_Link_initN l dC dI cB cI cL cZ cC cO (G := g0 G4 q_76 4) q_76 q_6 q_45 t0 _ hL (g0_q G4 q_76 4)) (cwI 3 hts (good_c k_650) rfl rfl rfl (hts _ k_22) (hts _ k_648) (hts _ k_649) rfl (by decide +kernel) ⟨Nat.le_of_ble_eq_true rfl, Nat.le_of_ble_eq_true rfl⟩) (wd_preS hK hP hD hS hA hF hE [] (by decide) rfl) rfl rfl hl.1 rfl (lv_room (Nat.le_of_ble_eq_true rfl)) d_Parser_parseLink_107 ⟨Nat.le_of_ble_eq_true rfl, Nat.le_of_ble_eq_true rfl⟩) hP hD hS hA [] [0, 1, 2, 3, 4, 5, 6, 7] rfl rfl (by decide) (by decide) (fun _ H locs w_101 hP hD hS => ?_)
                    have hP : va_P (dC, dI) cl ([(qn, .inl (cI, 1001, .inl (nF nn))), (qf, .inr (2, [v0, v1])), (qk, .inl (cI, 1001, .inl fk)), (qp, .inr (3, [.ref qc, .ref qt, .ref qf, .int (nI ((b0 + 1) + 1))])), (qt, .inr (1, [w0, w1, .ref qk, .ref ql, .ref qn, .ref qh, .ref qe])), (ql, .inl (cI, 1001, .inl (nF pp))), (qh, .inl (cL, 1001, .inr (.inl fh))), (qe, .inl (cL, 1001, .inr (.inl fl)))] ++ va_pl (L ++ [q_6] ++ [nm1] ++ [q_45] ++ [nm2] ++ [q_76]) (gE cO (lnk (g0 G4 q_76 4) q_76 q_6 q_45 none))) H := hP
                    have hD : va_D A ([(qn, .inl (cI, 1001, .inl (nF nn))), (qf, .inr (2, [v0, v1])), (qk, .inl (cI, 1001, .inl fk)), (qp, .inr (3, [.ref qc, .ref qt, .ref qf, .int (nI ((b0 + 1) + 1))])), (qt, .inr (1, [w0, w1, .ref qk, .ref ql, .ref qn, .ref qh, .ref qe])), (ql, .inl (cI, 1001, .inl (nF pp))), (qh, .inl (cL, 1001, .inr (.inl fh))), (qe, .inl (cL, 1001, .inr (.inl fl)))] ++ va_pl (L ++ [q_6] ++ [nm1] ++ [q_45] ++ [nm2] ++ [q_76]) (gE cO (lnk (g0 G4 q_76 4) q_76 q_6 q_45 none))) := hD
                    have ik := isK_of (x := q_6) (y := q_45) (z := none) (g0_q G4 q_76 4)
                    have hfr : ∀ b, G4.1 b ≠ 0 → gs G4 (lnk (g0 G4 q_76 4) q_76 q_6 q_45 none) b := fun b h9 => (gs_0 (fun e9 => h9 (by rw [e9]; exact hzk))).tr (lnk_gs (fun e9 => h9 (by rw [e9]; exact hzk)))
                    have hL : gL (L ++ [q_6] ++ [nm1] ++ [q_45] ++ [nm2] ++ [q_76]) (lnk (g0 G4 q_76 4) q_76 q_6 q_45 none) := hL
                    generalize lnk (g0 G4 q_76 4) q_76 q_6 q_45 none = G6 at hP hD ik hfr hL
                    have frek : frh G q_76 := frh.fr (frh0 hzk) (LFs_of fo (fun b => b = lk ∨ b = li))
                    have fs : LFs G G6 (fun b => b = lk ∨ b = li) := LFs.tr (LFs_of fo (fun b => b = lk ∨ b = li)) (LFs_of hfr _)
                    have is1 := is1.keep (hfr q_6 (by rw [is1.1]; decide))
                    have in1 := in1.keep (hfr nm1 (by rw [in1.1]; decide))
                    have is2 := is2.keep (hfr q_45 (by rw [is2.1]; decide))
                    have in2 := in2.keep (hfr nm2 (by rw [in2.1]; decide))
                    have l_lp := LSx_old l_lp hfr
                    have l_li := LSx_old l_li hfr
                    have l_lk := LSx_old l_lk hfr
                    have g_c := fs.gs (by rw [hc]; decide) (by rw [hc]; decide) (nSc)
                    have g_ck := g_c.1.trans hc
                    have g_p := fs.gs (by rw [hp0]; decide) (by rw [hp0]; decide) (nSp)
                    have g_pk := g_p.1.trans hp0
                    have fo := fs
                    refine wd_i (cx := []) (wr := [(qn, .inl (cI, 1001, .inl (nF nn))), (qf, .inr (2, [v0, v1])), (qk, .inl (cI, 1001, .inl fk)), (qp, .inr (3, [.ref qc, .ref qt, .ref qf, .int (nI ((b0 + 1) + 1))])), (qt, .inr (1, [w0, w1, .ref qk, .ref ql, .ref qn, .ref qh, .ref qe])), (ql, .inl (cI, 1001, .inl (nF pp))), (qh, .inl (cL, 1001, .inr (.inl fh))), (qe, .inl (cL, 1001, .inr (.inl fl)))]) (pl := va_pl (L ++ [q_6] ++ [nm1] ++ [q_45] ++ [nm2] ++ [q_76]) (gE cO G6)) (va_runV (As := [.ref q_76]) (rest := []) ⟨hx, hb, hml, hown, hts⟩ (p_List_add l dC dI cB cI cL cZ cC cO (G := G6) lk q_76 zs t0 _ hL l_lk (by rw [ik.1]; decide) (by omega)) (cwV 1 hts (good_V k_551 k_255 k_256 k_7 k_257) rfl rfl rfl (by decide +kernel) ⟨Nat.le_of_ble_eq_true rfl, Nat.le_of_ble_eq_true rfl⟩) (wd_preV (ci := 4) (r := (R_List, F_List, 3)) hK hP hD hS hA hF hE [] (by decide) rfl rfl (pq_at (gL_m hL l_lk.k.1 (by decide)) (gE_7 (G := G6) l_lk.k.1))) rfl rfl hl.1 rfl (lv_room (Nat.le_of_ble_eq_true rfl)) d_Parser_parseLink_110 ⟨Nat.le_of_ble_eq_true rfl, Nat.le_of_ble_eq_true rfl⟩) hP hD hS hA [] [0, 1, 2, 3, 4, 5, 6, 7] rfl rfl (by decide) (by decide) (fun r_104 u7 H locs w_103 hP hD hS => ?_)
                    have hP : va_P (dC, dI) cl ([(qn, .inl (cI, 1001, .inl (nF nn))), (qf, .inr (2, [v0, v1])), (qk, .inl (cI, 1001, .inl fk)), (qp, .inr (3, [.ref qc, .ref qt, .ref qf, .int (nI ((b0 + 1) + 1))])), (qt, .inr (1, [w0, w1, .ref qk, .ref ql, .ref qn, .ref qh, .ref qe])), (ql, .inl (cI, 1001, .inl (nF pp))), (qh, .inl (cL, 1001, .inr (.inl fh))), (qe, .inl (cL, 1001, .inr (.inl fl)))] ++ va_pl u7.1 (gE cO u7.2)) H := hP
                    have hD : va_D A ([(qn, .inl (cI, 1001, .inl (nF nn))), (qf, .inr (2, [v0, v1])), (qk, .inl (cI, 1001, .inl fk)), (qp, .inr (3, [.ref qc, .ref qt, .ref qf, .int (nI ((b0 + 1) + 1))])), (qt, .inr (1, [w0, w1, .ref qk, .ref ql, .ref qn, .ref qh, .ref qe])), (ql, .inl (cI, 1001, .inl (nF pp))), (qh, .inl (cL, 1001, .inr (.inl fh))), (qe, .inl (cL, 1001, .inr (.inl fl)))] ++ va_pl u7.1 (gE cO u7.2)) := hD
                    obtain ⟨r_104e, hu7⟩ := w_103
                    subst r_104e
                    have hL := hu7.2.1
                    have is1 := is1.keep (hu7.2.2.kd2 l_lk.k.1 (by rw [is1.1]; decide))
                    have in1 := in1.keep (hu7.2.2.kd2 l_lk.k.1 (by rw [in1.1]; decide))
                    have is2 := is2.keep (hu7.2.2.kd2 l_lk.k.1 (by rw [is2.1]; decide))
                    have in2 := in2.keep (hu7.2.2.kd2 l_lk.k.1 (by rw [in2.1]; decide))
                    have ik := ik.keep (hu7.2.2.kd2 l_lk.k.1 (by rw [ik.1]; decide))
                    have fq7 : LFs G6 u7.2 (fun b => b = lk ∨ b = li) := (LFs_LF hu7.2.2 l_lk.k.1 hu7.1.k.1).mono (fun _ q9 => Or.inl q9)
                    have l_li := LSx_fs l_li (LFs_LF hu7.2.2 l_lk.k.1 hu7.1.k.1) (fun b q9 e9 => by have q8 : b = lk := e9; rw [q8, l_lk.k.1] at q9; omega) (Ne.symm hne)
                    have fs := fs.tr fq7
                    have l_lk := hu7.1
                    generalize u7.2 = G7 at hP hD hL is1 in1 is2 in2 ik l_li l_lk fs
                    have fo := fs
                    refine lv_pop hx hb d_Parser_parseLink_113 rfl ?_
                    refine lv_iconst (v := nI 1) hx hb d_Parser_parseLink_114 (by decide) ?_
                    have hX : (plk fk pp (((xs.find? (ftk G (fh (b0 + 1)) (fl (b0 + 1))))).isSome || (((ys.find? (ftk G (fh (b0 + 1)) (fl (b0 + 1))))).isSome || decide (ys.length < 30))) a v0 v1) = (true, ((b0 + 1) + 1, v0, v1)) := by unfold plk; (rw [if_pos tk_1, if_pos hr1, hbe, if_pos tk_33, if_pos (show fk (b0 + 1) = nI 10 ∨ fk (b0 + 1) = nI 11 from Or.inl se_40)]) <;> rfl
                    refine W.widen (k := 8) (n := 1230) (by omega) (by omega) ?_
                    exact wr_z (x := true) hx hb hr hlocks (((b0 + 1) + 1, v0, v1), u7.1, G7) ⟨by rw [hX], by rw [hX], ⟨hL, fs⟩, fun _ => ⟨q_76, q_6, nm1, q_45, nm2, none, ⟨frek, fre1s, fre1n, fre2s, fre2n, hs12, hn12⟩, ik, is1, in1, in2, l_lk, Or.inl ⟨Or.inl se_40, by rw [if_pos se_40]; exact is2, rfl, l_li⟩⟩⟩ hK (hP.part [3, 4, 2, 5, 0, 6, 7, 1] rfl) (hD.part [3, 4, 2, 5, 0, 6, 7, 1] (by decide) rfl) hS d_Parser_parseLink_115
                · exact absurd (se_40d.symm.trans c_41) (by decide)
              · have se_40d : decide (fk (b0 + 1) = nI 10) = false := by simp [se_40]
                refine nv_bif_ne (tgt := 59) hx hb d_Parser_parseLink_47 (by decide) (fun c_105 => ?_) (fun c_105 => ?_)
                · exact absurd (se_40d.symm.trans c_105) (by decide)
                · refine lv_aload_n hx hb d_Parser_parseLink_50 rfl (lv_at hl 1 rfl) ?_
                  refine lv_bipush (v := nI 11) hx hb d_Parser_parseLink_51 (by decide) ?_
                  refine we_i (cx := [(qp, .inr (3, [.ref qc, .ref qt, .ref qf, .int (nI (b0 + 1))])), (qt, .inr (1, [w0, w1, .ref qk, .ref ql, .ref qn, .ref qh, .ref qe])), (qk, .inl (cI, 1001, .inl fk))]) (wr := [(qn, .inl (cI, 1001, .inl (nF nn))), (qh, .inl (cL, 1001, .inr (.inl fh))), (qe, .inl (cL, 1001, .inr (.inl fl))), (ql, .inl (cI, 1001, .inl (nF pp))), (qf, .inr (2, [v0, v1]))]) (pl := va_pl (L ++ [q_6] ++ [nm1]) (gE cO G2)) (va_runV (As := [.int (nI 11)]) (rest := []) ⟨hx, hb, hml, hown, hts⟩ (c_Parser_sees l dC dI cB cI cL cZ cC cO qp qc qt qf qk ql fk (b0 + 1) (nI 11) _ (by omega)) (cwV 1 hts (good_V k_642 k_644 s_Parser_sees k_4 k_645) rfl rfl rfl (by decide +kernel) ⟨Nat.le_of_ble_eq_true rfl, Nat.le_of_ble_eq_true rfl⟩) (wc_preV (k0 := 5) (ci := 3) (r := (R_Parser, F_Parser, 4)) hK hP hD hS hA hF [5, 6, 7] (by decide) rfl rfl rfl) rfl rfl hl.1 rfl (lv_room (Nat.le_of_ble_eq_true rfl)) d_Parser_parseLink_53 ⟨Nat.le_of_ble_eq_true rfl, Nat.le_of_ble_eq_true rfl⟩) hP hD hS hA [5, 6, 7] [0, 1, 2, 3, 4] rfl rfl (by decide) (by decide) (fun r_107 _ H locs w_106 hP hD hS => ?_)
                  have hP : va_P (dC, dI) cl ([(qn, .inl (cI, 1001, .inl (nF nn))), (qh, .inl (cL, 1001, .inr (.inl fh))), (qe, .inl (cL, 1001, .inr (.inl fl))), (ql, .inl (cI, 1001, .inl (nF pp))), (qf, .inr (2, [v0, v1])), (qp, .inr (3, [.ref qc, .ref qt, .ref qf, .int (nI (b0 + 1))])), (qt, .inr (1, [w0, w1, .ref qk, .ref ql, .ref qn, .ref qh, .ref qe])), (qk, .inl (cI, 1001, .inl fk))] ++ va_pl (L ++ [q_6] ++ [nm1]) (gE cO G2)) H := hP
                  have hD : va_D A ([(qn, .inl (cI, 1001, .inl (nF nn))), (qh, .inl (cL, 1001, .inr (.inl fh))), (qe, .inl (cL, 1001, .inr (.inl fl))), (ql, .inl (cI, 1001, .inl (nF pp))), (qf, .inr (2, [v0, v1])), (qp, .inr (3, [.ref qc, .ref qt, .ref qf, .int (nI (b0 + 1))])), (qt, .inr (1, [w0, w1, .ref qk, .ref ql, .ref qn, .ref qh, .ref qe])), (qk, .inl (cI, 1001, .inl fk))] ++ va_pl (L ++ [q_6] ++ [nm1]) (gE cO G2)) := hD
                  subst w_106
                  by_cases se_108 : fk (b0 + 1) = nI 11
                  · have se_108d : decide (fk (b0 + 1) = nI 11) = true := by simp [se_108]
                    have hbt : b0 + 1 < 1000 := by
                      rcases Nat.lt_or_ge (b0 + 1) 1000 with q9 | q9
                      · exact q9
                      · exact absurd (by rw [show 1000 = b0 + 1 by omega]; first | exact Or.inl se_108 | exact Or.inr se_108) hk10
                    refine nv_bif_eq (tgt := 116) hx hb d_Parser_parseLink_56 (by decide) (fun c_109 => ?_) (fun c_109 => ?_)
                    · exact absurd (se_108d.symm.trans c_109) (by decide)
                    · refine lv_aload_n hx hb d_Parser_parseLink_59 rfl (lv_at hl 1 rfl) ?_
                      refine lv_bipush (v := nI 10) hx hb d_Parser_parseLink_60 (by decide) ?_
                      refine we_i (cx := [(qp, .inr (3, [.ref qc, .ref qt, .ref qf, .int (nI (b0 + 1))])), (qt, .inr (1, [w0, w1, .ref qk, .ref ql, .ref qn, .ref qh, .ref qe])), (qk, .inl (cI, 1001, .inl fk))]) (wr := [(qn, .inl (cI, 1001, .inl (nF nn))), (qh, .inl (cL, 1001, .inr (.inl fh))), (qe, .inl (cL, 1001, .inr (.inl fl))), (ql, .inl (cI, 1001, .inl (nF pp))), (qf, .inr (2, [v0, v1]))]) (pl := va_pl (L ++ [q_6] ++ [nm1]) (gE cO G2)) (va_runV (As := [.int (nI 10)]) (rest := []) ⟨hx, hb, hml, hown, hts⟩ (c_Parser_sees l dC dI cB cI cL cZ cC cO qp qc qt qf qk ql fk (b0 + 1) (nI 10) _ (by omega)) (cwV 1 hts (good_V k_642 k_644 s_Parser_sees k_4 k_645) rfl rfl rfl (by decide +kernel) ⟨Nat.le_of_ble_eq_true rfl, Nat.le_of_ble_eq_true rfl⟩) (wc_preV (k0 := 5) (ci := 3) (r := (R_Parser, F_Parser, 4)) hK hP hD hS hA hF [5, 6, 7] (by decide) rfl rfl rfl) rfl rfl hl.1 rfl (lv_room (Nat.le_of_ble_eq_true rfl)) d_Parser_parseLink_62 ⟨Nat.le_of_ble_eq_true rfl, Nat.le_of_ble_eq_true rfl⟩) hP hD hS hA [5, 6, 7] [0, 1, 2, 3, 4] rfl rfl (by decide) (by decide) (fun r_111 _ H locs w_110 hP hD hS => ?_)
                      have hP : va_P (dC, dI) cl ([(qn, .inl (cI, 1001, .inl (nF nn))), (qh, .inl (cL, 1001, .inr (.inl fh))), (qe, .inl (cL, 1001, .inr (.inl fl))), (ql, .inl (cI, 1001, .inl (nF pp))), (qf, .inr (2, [v0, v1])), (qp, .inr (3, [.ref qc, .ref qt, .ref qf, .int (nI (b0 + 1))])), (qt, .inr (1, [w0, w1, .ref qk, .ref ql, .ref qn, .ref qh, .ref qe])), (qk, .inl (cI, 1001, .inl fk))] ++ va_pl (L ++ [q_6] ++ [nm1]) (gE cO G2)) H := hP
                      have hD : va_D A ([(qn, .inl (cI, 1001, .inl (nF nn))), (qh, .inl (cL, 1001, .inr (.inl fh))), (qe, .inl (cL, 1001, .inr (.inl fl))), (ql, .inl (cI, 1001, .inl (nF pp))), (qf, .inr (2, [v0, v1])), (qp, .inr (3, [.ref qc, .ref qt, .ref qf, .int (nI (b0 + 1))])), (qt, .inr (1, [w0, w1, .ref qk, .ref ql, .ref qn, .ref qh, .ref qe])), (qk, .inl (cI, 1001, .inl fk))] ++ va_pl (L ++ [q_6] ++ [nm1]) (gE cO G2)) := hD
                      subst w_110
                      refine nv_bif_eq (tgt := 72) hx hb d_Parser_parseLink_65 (by decide) (fun c_112 => ?_) (fun c_112 => ?_)
                      · refine lv_iconst (v := nI 0) hx hb d_Parser_parseLink_72 (by decide) ?_
                        refine lv_istore (lv' := [(4, .int (nI 0)), (3, .ref q_6), (0, .ref qp), (1, .ref c0), (2, .ref p0)]) hx hb d_Parser_parseLink_73 hl (by decide) rfl (fun ls hl => ?_)
                        refine pq_new (ci := 11) (fs := [.null, .int (nI 0), .int (nI 0), .int (nI 0), .int (nI 0)]) (C := R_Side) (T := F_Side) (N := 5) (fn := fun q9 => gE cO (g0 G2 q9 3)) hx hb hts i_Side t_Side t_Side_ok hown (hts _ k_607) (hts _ k_608) (hts _ k_21) hK hP hD hS hA rfl (fun j hj => by rcases (show j = 0 ∨ j = 1 ∨ j = 2 ∨ j = 3 ∨ j = 4 by omega) with rfl | rfl | rfl | rfl | rfl <;> rfl) (Nat.le_of_ble_eq_true rfl) (Nat.le_of_ble_eq_true rfl) (fun q9 => nE_3 (G := G2) q9) d_Parser_parseLink_75 (fun q_113 H nq_113 hP hD hS => ?_)
                        have kf_114 : (g0 G2 q_113 3).1 q_6 = 3 := (g0_k hL is1.1 (by decide) nq_113)
                        have ne_115 : q_6 ≠ q_113 := g0_ne hL is1.1 (by decide) nq_113
                        have kf_116 : (g0 G2 q_113 3).1 nm1 = 1 := (g0_k hL in1.1 (by decide) nq_113)
                        have ne_117 : nm1 ≠ q_113 := g0_ne hL in1.1 (by decide) nq_113
                        have kf_118 : (g0 G2 q_113 3).1 c0 = 6 := (g0_k hL g_ck (by decide) nq_113)
                        have ne_119 : c0 ≠ q_113 := g0_ne hL g_ck (by decide) nq_113
                        have kf_120 : (g0 G2 q_113 3).1 p0 = 5 := (g0_k hL g_pk (by decide) nq_113)
                        have ne_121 : p0 ≠ q_113 := g0_ne hL g_pk (by decide) nq_113
                        have kf_122 : (g0 G2 q_113 3).1 lp = 7 := (g0_k hL l_lp.k.1 (by decide) nq_113)
                        have ne_123 : lp ≠ q_113 := g0_ne hL l_lp.k.1 (by decide) nq_113
                        have kf_124 : (g0 G2 q_113 3).1 li = 7 := (g0_k hL l_li.k.1 (by decide) nq_113)
                        have ne_125 : li ≠ q_113 := g0_ne hL l_li.k.1 (by decide) nq_113
                        have kf_126 : (g0 G2 q_113 3).1 lk = 7 := (g0_k hL l_lk.k.1 (by decide) nq_113)
                        have ne_127 : lk ≠ q_113 := g0_ne hL l_lk.k.1 (by decide) nq_113
                        have fa_128 : (g0 G2 q_113 3).2.2.2.2.2 c0 3 = some lp := (congrFun ((gs_0 ne_119).2.2.2.2.2) 3).trans (show _ = some lp by rw [g_c.2.2.2.2.2]; exact hpl)
                        have fa_129 : (g0 G2 q_113 3).2.2.2.2.2 c0 4 = some li := (congrFun ((gs_0 ne_119).2.2.2.2.2) 4).trans (show _ = some li by rw [g_c.2.2.2.2.2]; exact hil)
                        have fa_130 : (g0 G2 q_113 3).2.2.2.2.2 p0 1 = some lk := (congrFun ((gs_0 ne_121).2.2.2.2.2) 1).trans (show _ = some lk by rw [g_p.2.2.2.2.2]; exact hlk)
                        have fa_131 : (g0 G2 q_113 3).2.2.2.2.2 q_6 0 = some nm1 := (congrFun ((gs_0 ne_115).2.2.2.2.2) 0).trans is1.2.1
                        have hL0 := hL
                        have hz9 : G2.1 q_113 = 0 := g0_n hL nq_113
                        replace hL := gL_new (a := q_113) (n := 3) hL
                        have hP : va_P (dC, dI) cl ([(qn, .inl (cI, 1001, .inl (nF nn))), (qh, .inl (cL, 1001, .inr (.inl fh))), (qe, .inl (cL, 1001, .inr (.inl fl))), (ql, .inl (cI, 1001, .inl (nF pp))), (qf, .inr (2, [v0, v1])), (qp, .inr (3, [.ref qc, .ref qt, .ref qf, .int (nI (b0 + 1))])), (qt, .inr (1, [w0, w1, .ref qk, .ref ql, .ref qn, .ref qh, .ref qe])), (qk, .inl (cI, 1001, .inl fk))] ++ va_pl (L ++ [q_6] ++ [nm1] ++ [q_113]) (gE cO (g0 G2 q_113 3))) H := hP
                        have hD : va_D A ([(qn, .inl (cI, 1001, .inl (nF nn))), (qh, .inl (cL, 1001, .inr (.inl fh))), (qe, .inl (cL, 1001, .inr (.inl fl))), (ql, .inl (cI, 1001, .inl (nF pp))), (qf, .inr (2, [v0, v1])), (qp, .inr (3, [.ref qc, .ref qt, .ref qf, .int (nI (b0 + 1))])), (qt, .inr (1, [w0, w1, .ref qk, .ref ql, .ref qn, .ref qh, .ref qe])), (qk, .inl (cI, 1001, .inl fk))] ++ va_pl (L ++ [q_6] ++ [nm1] ++ [q_113]) (gE cO (g0 G2 q_113 3))) := hD
                        refine lv_dup hx hb d_Parser_parseLink_78 rfl ?_
                        refine lv_aload_n hx hb d_Parser_parseLink_79 rfl (lv_at hl 2 rfl) ?_
                        have hzq2 : G2.1 q_113 = 0 := hz9
                        refine we_q (cx := [(qp, .inr (3, [.ref qc, .ref qt, .ref qf, .int (nI (b0 + 1))])), (qt, .inr (1, [w0, w1, .ref qk, .ref ql, .ref qn, .ref qh, .ref qe])), (ql, .inl (cI, 1001, .inl (nF pp))), (qh, .inl (cL, 1001, .inr (.inl fh))), (qe, .inl (cL, 1001, .inr (.inl fl)))]) (wr := [(qn, .inl (cI, 1001, .inl (nF nn))), (qf, .inr (2, [v0, v1])), (qk, .inl (cI, 1001, .inl fk))]) (pl := va_pl (L ++ [q_6] ++ [nm1] ++ [q_113]) (gE cO (g0 G2 q_113 3))) (va_runV (As := []) (rest := [.ref q_113, .ref q_113]) ⟨hx, hb, hml, hown, hts⟩ (c_Parser_takeName l dC dI cB cI cL cZ cC cO qp qt ql qh qe (nF pp) fh fl (b0 + 1) _ (by omega)) (cwV 0 hts (good_V k_543 k_545 s_Parser_takeName k_4 k_546) rfl rfl rfl (by decide +kernel) ⟨Nat.le_of_ble_eq_true rfl, Nat.le_of_ble_eq_true rfl⟩) (wc_preV (k0 := 5) (ci := 3) (r := (R_Parser, F_Parser, 4)) hK hP hD hS hA hF [5, 6, 3, 1, 2] (by decide) rfl rfl rfl) rfl rfl hl.1 rfl (lv_room (Nat.le_of_ble_eq_true rfl)) d_Parser_parseLink_80 ⟨Nat.le_of_ble_eq_true rfl, Nat.le_of_ble_eq_true rfl⟩) hP hD hS hA [5, 6, 3, 1, 2] [0, 4, 7] rfl rfl (by decide) (by decide) (fun r_133 nm2 H locs w_132 hP hD hS => ?_)
                        have hP : va_P (dC, dI) cl ([(qn, .inl (cI, 1001, .inl (nF nn))), (qf, .inr (2, [v0, v1])), (qk, .inl (cI, 1001, .inl fk)), (qp, .inr (3, [.ref qc, .ref qt, .ref qf, .int (nI (min (b0 + 1 + 1) 1000))])), (qt, .inr (1, [w0, w1, .ref qk, .ref ql, .ref qn, .ref qh, .ref qe])), (ql, .inl (cI, 1001, .inl (nF pp))), (qh, .inl (cL, 1001, .inr (.inl fh))), (qe, .inl (cL, 1001, .inr (.inl fl))), (nm2, .inr (7, [.long (fh (b0 + 1)), .long (fl (b0 + 1)), .int (nI (pp (b0 + 1)))]))] ++ va_pl (L ++ [q_6] ++ [nm1] ++ [q_113]) (gE cO (g0 G2 q_113 3))) H := hP
                        have hD : va_D A ([(qn, .inl (cI, 1001, .inl (nF nn))), (qf, .inr (2, [v0, v1])), (qk, .inl (cI, 1001, .inl fk)), (qp, .inr (3, [.ref qc, .ref qt, .ref qf, .int (nI (min (b0 + 1 + 1) 1000))])), (qt, .inr (1, [w0, w1, .ref qk, .ref ql, .ref qn, .ref qh, .ref qe])), (ql, .inl (cI, 1001, .inl (nF pp))), (qh, .inl (cL, 1001, .inr (.inl fh))), (qe, .inl (cL, 1001, .inr (.inl fl))), (nm2, .inr (7, [.long (fh (b0 + 1)), .long (fl (b0 + 1)), .int (nI (pp (b0 + 1)))]))] ++ va_pl (L ++ [q_6] ++ [nm1] ++ [q_113]) (gE cO (g0 G2 q_113 3))) := hD
                        subst w_132
                        obtain ⟨nnm2, hP, hD⟩ := pq_in (X := [(qn, .inl (cI, 1001, .inl (nF nn))), (qf, .inr (2, [v0, v1])), (qk, .inl (cI, 1001, .inl fk)), (qp, .inr (3, [.ref qc, .ref qt, .ref qf, .int (nI (min (b0 + 1 + 1) 1000))])), (qt, .inr (1, [w0, w1, .ref qk, .ref ql, .ref qn, .ref qh, .ref qe])), (ql, .inl (cI, 1001, .inl (nF pp))), (qh, .inl (cL, 1001, .inr (.inl fh))), (qe, .inl (cL, 1001, .inr (.inl fl)))]) hP hD
                        have hP : va_P (dC, dI) cl ([(qn, .inl (cI, 1001, .inl (nF nn))), (qf, .inr (2, [v0, v1])), (qk, .inl (cI, 1001, .inl fk)), (qp, .inr (3, [.ref qc, .ref qt, .ref qf, .int (nI (min (b0 + 1 + 1) 1000))])), (qt, .inr (1, [w0, w1, .ref qk, .ref ql, .ref qn, .ref qh, .ref qe])), (ql, .inl (cI, 1001, .inl (nF pp))), (qh, .inl (cL, 1001, .inr (.inl fh))), (qe, .inl (cL, 1001, .inr (.inl fl)))] ++ va_pl (L ++ [q_6] ++ [nm1] ++ [q_113] ++ [nm2]) (gE cO (nam (g0 G2 q_113 3) nm2 (fh (b0 + 1)) (fl (b0 + 1)) (some (pp (b0 + 1)))))) H := by rw [← namE]; exact hP
                        have hD : va_D A ([(qn, .inl (cI, 1001, .inl (nF nn))), (qf, .inr (2, [v0, v1])), (qk, .inl (cI, 1001, .inl fk)), (qp, .inr (3, [.ref qc, .ref qt, .ref qf, .int (nI (min (b0 + 1 + 1) 1000))])), (qt, .inr (1, [w0, w1, .ref qk, .ref ql, .ref qn, .ref qh, .ref qe])), (ql, .inl (cI, 1001, .inl (nF pp))), (qh, .inl (cL, 1001, .inr (.inl fh))), (qe, .inl (cL, 1001, .inr (.inl fl)))] ++ va_pl (L ++ [q_6] ++ [nm1] ++ [q_113] ++ [nm2]) (gE cO (nam (g0 G2 q_113 3) nm2 (fh (b0 + 1)) (fl (b0 + 1)) (some (pp (b0 + 1)))))) := by rw [← namE]; exact hD
                        obtain ⟨z21, z22, z23⟩ := isN_new (q := nm2) (hh := fh (b0 + 1)) (tt := fl (b0 + 1)) (pl := some (pp (b0 + 1))) hL
                        have hq2 : (g0 G2 q_113 3).1 nm2 = 0 := g0_n hL nnm2
                        generalize nam (g0 G2 q_113 3) nm2 (fh (b0 + 1)) (fl (b0 + 1)) (some (pp (b0 + 1))) = T2 at hP hD z21 z22 z23
                        have hL := z22
                        rw [show min (b0 + 1 + 1) 1000 = b0 + 1 + 1 by omega] at hP hD
                        have hP : va_P (dC, dI) cl ([(qn, .inl (cI, 1001, .inl (nF nn))), (qf, .inr (2, [v0, v1])), (qk, .inl (cI, 1001, .inl fk)), (qp, .inr (3, [.ref qc, .ref qt, .ref qf, .int (nI ((b0 + 1) + 1))])), (qt, .inr (1, [w0, w1, .ref qk, .ref ql, .ref qn, .ref qh, .ref qe])), (ql, .inl (cI, 1001, .inl (nF pp))), (qh, .inl (cL, 1001, .inr (.inl fh))), (qe, .inl (cL, 1001, .inr (.inl fl)))] ++ va_pl (L ++ [q_6] ++ [nm1] ++ [q_113] ++ [nm2]) (gE cO T2)) H := hP
                        have hD : va_D A ([(qn, .inl (cI, 1001, .inl (nF nn))), (qf, .inr (2, [v0, v1])), (qk, .inl (cI, 1001, .inl fk)), (qp, .inr (3, [.ref qc, .ref qt, .ref qf, .int (nI ((b0 + 1) + 1))])), (qt, .inr (1, [w0, w1, .ref qk, .ref ql, .ref qn, .ref qh, .ref qe])), (ql, .inl (cI, 1001, .inl (nF pp))), (qh, .inl (cL, 1001, .inr (.inl fh))), (qe, .inl (cL, 1001, .inr (.inl fl)))] ++ va_pl (L ++ [q_6] ++ [nm1] ++ [q_113] ++ [nm2]) (gE cO T2)) := hD
                        have kf_134 : T2.1 q_6 = 3 := (z23 q_6 (fun e9 => absurd ((kf_114).symm.trans ((congrArg (g0 G2 q_113 3).1 e9).trans hq2)) (by decide))).1.trans kf_114
                        have kf_135 : T2.1 nm1 = 1 := (z23 nm1 (fun e9 => absurd ((kf_116).symm.trans ((congrArg (g0 G2 q_113 3).1 e9).trans hq2)) (by decide))).1.trans kf_116
                        have kf_136 : T2.1 c0 = 6 := (z23 c0 (fun e9 => absurd ((kf_118).symm.trans ((congrArg (g0 G2 q_113 3).1 e9).trans hq2)) (by decide))).1.trans kf_118
                        have kf_137 : T2.1 p0 = 5 := (z23 p0 (fun e9 => absurd ((kf_120).symm.trans ((congrArg (g0 G2 q_113 3).1 e9).trans hq2)) (by decide))).1.trans kf_120
                        have kf_138 : T2.1 lp = 7 := (z23 lp (fun e9 => absurd ((kf_122).symm.trans ((congrArg (g0 G2 q_113 3).1 e9).trans hq2)) (by decide))).1.trans kf_122
                        have kf_139 : T2.1 li = 7 := (z23 li (fun e9 => absurd ((kf_124).symm.trans ((congrArg (g0 G2 q_113 3).1 e9).trans hq2)) (by decide))).1.trans kf_124
                        have kf_140 : T2.1 lk = 7 := (z23 lk (fun e9 => absurd ((kf_126).symm.trans ((congrArg (g0 G2 q_113 3).1 e9).trans hq2)) (by decide))).1.trans kf_126
                        have kf_141 : T2.1 q_113 = 3 := (z23 q_113 (fun e9 => absurd (((g0_q G2 q_113 3)).symm.trans ((congrArg (g0 G2 q_113 3).1 e9).trans hq2)) (by decide))).1.trans (g0_q G2 q_113 3)
                        refine wd_v (cx := []) (wr := [(qn, .inl (cI, 1001, .inl (nF nn))), (qf, .inr (2, [v0, v1])), (qk, .inl (cI, 1001, .inl fk)), (qp, .inr (3, [.ref qc, .ref qt, .ref qf, .int (nI ((b0 + 1) + 1))])), (qt, .inr (1, [w0, w1, .ref qk, .ref ql, .ref qn, .ref qh, .ref qe])), (ql, .inl (cI, 1001, .inl (nF pp))), (qh, .inl (cL, 1001, .inr (.inl fh))), (qe, .inl (cL, 1001, .inr (.inl fl)))]) (pl := va_pl (L ++ [q_6] ++ [nm1] ++ [q_113] ++ [nm2]) (gE cO T2)) (va_runI (As := [.ref nm2]) (rest := [.ref q_113]) ⟨hx, hb, hml, hown, hts⟩ (p_Side_init l dC dI cB cI cL cZ cC cO (G := T2) q_113 nm2 t0 _ hL kf_141) (cwI 1 hts (good_c k_611) rfl rfl rfl (hts _ k_21) (hts _ k_609) (hts _ k_610) rfl (by decide +kernel) ⟨Nat.le_of_ble_eq_true rfl, Nat.le_of_ble_eq_true rfl⟩) (wd_preS hK hP hD hS hA hF hE [] (by decide) rfl) rfl rfl hl.1 rfl (lv_room (Nat.le_of_ble_eq_true rfl)) d_Parser_parseLink_83 ⟨Nat.le_of_ble_eq_true rfl, Nat.le_of_ble_eq_true rfl⟩) hP hD hS hA [] [0, 1, 2, 3, 4, 5, 6, 7] rfl rfl (by decide) (by decide) (fun _ H locs w_142 hP hD hS => ?_)
                        have hP : va_P (dC, dI) cl ([(qn, .inl (cI, 1001, .inl (nF nn))), (qf, .inr (2, [v0, v1])), (qk, .inl (cI, 1001, .inl fk)), (qp, .inr (3, [.ref qc, .ref qt, .ref qf, .int (nI ((b0 + 1) + 1))])), (qt, .inr (1, [w0, w1, .ref qk, .ref ql, .ref qn, .ref qh, .ref qe])), (ql, .inl (cI, 1001, .inl (nF pp))), (qh, .inl (cL, 1001, .inr (.inl fh))), (qe, .inl (cL, 1001, .inr (.inl fl)))] ++ va_pl (L ++ [q_6] ++ [nm1] ++ [q_113] ++ [nm2]) (gE cO (sid T2 q_113 nm2))) H := hP
                        have hD : va_D A ([(qn, .inl (cI, 1001, .inl (nF nn))), (qf, .inr (2, [v0, v1])), (qk, .inl (cI, 1001, .inl fk)), (qp, .inr (3, [.ref qc, .ref qt, .ref qf, .int (nI ((b0 + 1) + 1))])), (qt, .inr (1, [w0, w1, .ref qk, .ref ql, .ref qn, .ref qh, .ref qe])), (ql, .inl (cI, 1001, .inl (nF pp))), (qh, .inl (cL, 1001, .inr (.inl fh))), (qe, .inl (cL, 1001, .inr (.inl fl)))] ++ va_pl (L ++ [q_6] ++ [nm1] ++ [q_113] ++ [nm2]) (gE cO (sid T2 q_113 nm2))) := hD
                        have is2 := isS_of (nm := nm2) kf_141
                        have hqn2 : q_113 ≠ nm2 := fun e9 => by have q9 := kf_141; rw [e9, z21.1] at q9; cases q9
                        have in2 : isN (sid T2 q_113 nm2) nm2 _ _ _ := z21.keep (sid_gs (Ne.symm hqn2))
                        have hnm2 : G2.1 nm2 = 0 := by have q9 := hq2; rw [(gs_0 (Ne.symm hqn2)).1] at q9; exact q9
                        have hfr : ∀ b, G2.1 b ≠ 0 → gs G2 (sid T2 q_113 nm2) b := fun b h9 => ((gs_0 (fun e9 => h9 (by rw [e9]; exact hzq2))).tr (z23 b (fun e9 => h9 (by rw [e9]; exact hnm2)))).tr (sid_gs (fun e9 => h9 (by rw [e9]; exact hzq2)))
                        have hL : gL (L ++ [q_6] ++ [nm1] ++ [q_113] ++ [nm2]) (sid T2 q_113 nm2) := hL
                        generalize sid T2 q_113 nm2 = G3 at hP hD is2 in2 hfr hL
                        have fre2z : G.1 q_113 = 0 := Classical.byContradiction (fun h9 => h9 ((fo q_113 h9).1.symm.trans hzq2))
                        have fre2s : frh G q_113 := frh.fr (frh0 hzq2) (LFs_of fo (fun _ => False))
                        have fre2n : frh G nm2 := frh.fr (frh0 hnm2) (LFs_of fo (fun _ => False))
                        have hs12 : q_6 ≠ q_113 := fun e9 => by have q9 := is1.1; rw [e9, hzq2] at q9; cases q9
                        have hn12 : nm1 ≠ nm2 := fun e9 => by have q9 := in1.1; rw [e9, hnm2] at q9; cases q9
                        have fo : ∀ b, G.1 b ≠ 0 → gs G G3 b := (fun b h9 => (fo b h9).tr (hfr b (by rw [(fo b h9).1]; exact h9)))
                        have is1 := is1.keep (hfr q_6 (by rw [is1.1]; decide))
                        have in1 := in1.keep (hfr nm1 (by rw [in1.1]; decide))
                        have g_c := fo c0 (by rw [hc]; decide)
                        have g_ck := g_c.1.trans hc
                        have g_p := fo p0 (by rw [hp0]; decide)
                        have g_pk := g_p.1.trans hp0
                        have l_lp := LSx_old l_lp hfr
                        have l_li := LSx_old l_li hfr
                        have l_lk := LSx_old l_lk hfr
                        refine lv_astore (lv' := [(5, .ref q_113), (4, .int (nI 0)), (3, .ref q_6), (0, .ref qp), (1, .ref c0), (2, .ref p0)]) hx hb d_Parser_parseLink_86 hl (by decide) rfl (fun ls hl => ?_)
                        refine lv_aload hx hb d_Parser_parseLink_88 (lv_at hl 0 rfl) ?_
                        refine lv_iload hx hb d_Parser_parseLink_90 (lv_at hl 1 rfl) ?_
                        refine pq_put (D := (dC, dI)) (ci := 11) (v := .int (oI (some 0))) (ty := .int) (C := R_Side) (T := F_Side) (N := 5) hx hb hts i_Side t_Side t_Side_ok n_Side hown hK hP hD hS (gL_m hL is2.1 (by decide)) (gE_3 (G := G3) is2.1) rfl 1 (by decide) (hts _ k_618) (fun _ h9 => h9) rfl (by decide +kernel) rfl rfl (Nat.le_of_ble_eq_true rfl) (uE_3_1 (G := G3) (v := some 0) is2.1) d_Parser_parseLink_92 (fun H locs hP hD hS => ?_)
                        have hP : va_P (dC, dI) cl ([(qn, .inl (cI, 1001, .inl (nF nn))), (qf, .inr (2, [v0, v1])), (qk, .inl (cI, 1001, .inl fk)), (qp, .inr (3, [.ref qc, .ref qt, .ref qf, .int (nI ((b0 + 1) + 1))])), (qt, .inr (1, [w0, w1, .ref qk, .ref ql, .ref qn, .ref qh, .ref qe])), (ql, .inl (cI, 1001, .inl (nF pp))), (qh, .inl (cL, 1001, .inr (.inl fh))), (qe, .inl (cL, 1001, .inr (.inl fl)))] ++ va_pl (L ++ [q_6] ++ [nm1] ++ [q_113] ++ [nm2]) (gE cO (gO G3 q_113 1 (some 0)))) H := hP
                        have hD : va_D A ([(qn, .inl (cI, 1001, .inl (nF nn))), (qf, .inr (2, [v0, v1])), (qk, .inl (cI, 1001, .inl fk)), (qp, .inr (3, [.ref qc, .ref qt, .ref qf, .int (nI ((b0 + 1) + 1))])), (qt, .inr (1, [w0, w1, .ref qk, .ref ql, .ref qn, .ref qh, .ref qe])), (ql, .inl (cI, 1001, .inl (nF pp))), (qh, .inl (cL, 1001, .inr (.inl fh))), (qe, .inl (cL, 1001, .inr (.inl fl)))] ++ va_pl (L ++ [q_6] ++ [nm1] ++ [q_113] ++ [nm2]) (gE cO (gO G3 q_113 1 (some 0)))) := hD
                        have is2 := isS_c (x := 0) is2
                        have hfr : ∀ b, b ≠ q_113 → gs G3 (gO G3 q_113 1 (some 0)) b := fun b h9 => gs_O h9
                        have hL : gL (L ++ [q_6] ++ [nm1] ++ [q_113] ++ [nm2]) (gO G3 q_113 1 (some 0)) := hL
                        have fo : ∀ b, G.1 b ≠ 0 → gs G (gO G3 q_113 1 (some 0)) b := fun b h9 => (fo b h9).tr (hfr b (fun e9 => h9 (by rw [e9]; exact fre2z)))
                        have is1 := is1.keep (hfr q_6 hs12)
                        have in1 := in1.keep (hfr nm1 (fun e9 => by have q9 := in1.1; rw [e9, is2.1] at q9; cases q9))
                        have in2 := in2.keep (hfr nm2 (Ne.symm hqn2))
                        have g_c := fo c0 (by rw [hc]; decide)
                        have g_ck := g_c.1.trans hc
                        have g_p := fo p0 (by rw [hp0]; decide)
                        have g_pk := g_p.1.trans hp0
                        have l_lp := LSx_old (show LSx t0 G lp _ from h_l_lp) fo
                        have l_li := LSx_old (show LSx t0 G li _ from h_l_li) fo
                        have l_lk := LSx_old (show LSx t0 G lk _ from h_l_lk) fo
                        generalize gO G3 q_113 1 (some 0) = G4 at hP hD hL is1 in1 is2 in2 fo g_c g_ck g_p g_pk l_lp l_li l_lk
                        clear hfr
                        refine lv_aload_n hx hb d_Parser_parseLink_95 rfl (lv_at hl 5 rfl) ?_
                        refine pq_get (D := (dC, dI)) (ci := 10) (v := .ref lk) (C := R_Part) (T := F_Part) (N := 3) hx hb hts i_Part hown hK hP (gL_m hL g_pk (by decide)) (gE_5 (G := G4) g_pk) rfl 1 (by decide) (hts _ k_588) (fun _ h9 => h9) (congrArg (fun z9 => some (va_rf z9)) (show _ = some lk by rw [g_p.2.2.2.2.2]; exact hlk)) d_Parser_parseLink_96 ?_
                        refine pq_new (ci := 12) (fs := [.null, .null, .null, .null]) (C := R_Link) (T := F_Link) (N := 4) (fn := fun q9 => gE cO (g0 G4 q9 4)) hx hb hts i_Link t_Link t_Link_ok hown (hts _ k_646) (hts _ k_647) (hts _ k_22) hK hP hD hS hA rfl (fun j hj => by rcases (show j = 0 ∨ j = 1 ∨ j = 2 ∨ j = 3 by omega) with rfl | rfl | rfl | rfl <;> rfl) (Nat.le_of_ble_eq_true rfl) (Nat.le_of_ble_eq_true rfl) (fun q9 => nE_4 (G := G4) q9) d_Parser_parseLink_99 (fun q_144 H nq_144 hP hD hS => ?_)
                        have kf_145 : (g0 G4 q_144 4).1 q_6 = 3 := (g0_k hL is1.1 (by decide) nq_144)
                        have ne_146 : q_6 ≠ q_144 := g0_ne hL is1.1 (by decide) nq_144
                        have kf_147 : (g0 G4 q_144 4).1 nm1 = 1 := (g0_k hL in1.1 (by decide) nq_144)
                        have ne_148 : nm1 ≠ q_144 := g0_ne hL in1.1 (by decide) nq_144
                        have kf_149 : (g0 G4 q_144 4).1 q_113 = 3 := (g0_k hL is2.1 (by decide) nq_144)
                        have ne_150 : q_113 ≠ q_144 := g0_ne hL is2.1 (by decide) nq_144
                        have kf_151 : (g0 G4 q_144 4).1 nm2 = 1 := (g0_k hL in2.1 (by decide) nq_144)
                        have ne_152 : nm2 ≠ q_144 := g0_ne hL in2.1 (by decide) nq_144
                        have kf_153 : (g0 G4 q_144 4).1 c0 = 6 := (g0_k hL g_ck (by decide) nq_144)
                        have ne_154 : c0 ≠ q_144 := g0_ne hL g_ck (by decide) nq_144
                        have kf_155 : (g0 G4 q_144 4).1 p0 = 5 := (g0_k hL g_pk (by decide) nq_144)
                        have ne_156 : p0 ≠ q_144 := g0_ne hL g_pk (by decide) nq_144
                        have kf_157 : (g0 G4 q_144 4).1 lp = 7 := (g0_k hL l_lp.k.1 (by decide) nq_144)
                        have ne_158 : lp ≠ q_144 := g0_ne hL l_lp.k.1 (by decide) nq_144
                        have kf_159 : (g0 G4 q_144 4).1 li = 7 := (g0_k hL l_li.k.1 (by decide) nq_144)
                        have ne_160 : li ≠ q_144 := g0_ne hL l_li.k.1 (by decide) nq_144
                        have kf_161 : (g0 G4 q_144 4).1 lk = 7 := (g0_k hL l_lk.k.1 (by decide) nq_144)
                        have ne_162 : lk ≠ q_144 := g0_ne hL l_lk.k.1 (by decide) nq_144
                        have fa_163 : (g0 G4 q_144 4).2.2.2.2.2 c0 3 = some lp := (congrFun ((gs_0 ne_154).2.2.2.2.2) 3).trans (show _ = some lp by rw [g_c.2.2.2.2.2]; exact hpl)
                        have fa_164 : (g0 G4 q_144 4).2.2.2.2.2 c0 4 = some li := (congrFun ((gs_0 ne_154).2.2.2.2.2) 4).trans (show _ = some li by rw [g_c.2.2.2.2.2]; exact hil)
                        have fa_165 : (g0 G4 q_144 4).2.2.2.2.2 p0 1 = some lk := (congrFun ((gs_0 ne_156).2.2.2.2.2) 1).trans (show _ = some lk by rw [g_p.2.2.2.2.2]; exact hlk)
                        have fa_166 : (g0 G4 q_144 4).2.2.2.2.2 q_6 0 = some nm1 := (congrFun ((gs_0 ne_146).2.2.2.2.2) 0).trans is1.2.1
                        have fa_167 : (g0 G4 q_144 4).2.2.2.2.2 q_113 0 = some nm2 := (congrFun ((gs_0 ne_150).2.2.2.2.2) 0).trans is2.2.1
                        have fa_168 : (g0 G4 q_144 4).2.2.1 nm2 2 = some (pp (b0 + 1)) := (congrFun ((gs_0 ne_152).2.2.1) 2).trans in2.2.2.2
                        have hL0 := hL
                        have hz9 : G4.1 q_144 = 0 := g0_n hL nq_144
                        replace hL := gL_new (a := q_144) (n := 4) hL
                        have hP : va_P (dC, dI) cl ([(qn, .inl (cI, 1001, .inl (nF nn))), (qf, .inr (2, [v0, v1])), (qk, .inl (cI, 1001, .inl fk)), (qp, .inr (3, [.ref qc, .ref qt, .ref qf, .int (nI ((b0 + 1) + 1))])), (qt, .inr (1, [w0, w1, .ref qk, .ref ql, .ref qn, .ref qh, .ref qe])), (ql, .inl (cI, 1001, .inl (nF pp))), (qh, .inl (cL, 1001, .inr (.inl fh))), (qe, .inl (cL, 1001, .inr (.inl fl)))] ++ va_pl (L ++ [q_6] ++ [nm1] ++ [q_113] ++ [nm2] ++ [q_144]) (gE cO (g0 G4 q_144 4))) H := hP
                        have hD : va_D A ([(qn, .inl (cI, 1001, .inl (nF nn))), (qf, .inr (2, [v0, v1])), (qk, .inl (cI, 1001, .inl fk)), (qp, .inr (3, [.ref qc, .ref qt, .ref qf, .int (nI ((b0 + 1) + 1))])), (qt, .inr (1, [w0, w1, .ref qk, .ref ql, .ref qn, .ref qh, .ref qe])), (ql, .inl (cI, 1001, .inl (nF pp))), (qh, .inl (cL, 1001, .inr (.inl fh))), (qe, .inl (cL, 1001, .inr (.inl fl)))] ++ va_pl (L ++ [q_6] ++ [nm1] ++ [q_113] ++ [nm2] ++ [q_144]) (gE cO (g0 G4 q_144 4))) := hD
                        refine lv_dup hx hb d_Parser_parseLink_102 rfl ?_
                        refine lv_aload_n hx hb d_Parser_parseLink_103 rfl (lv_at hl 2 rfl) ?_
                        refine lv_aload hx hb d_Parser_parseLink_104 (lv_at hl 0 rfl) ?_
                        refine lv_null hx hb d_Parser_parseLink_106 ?_
                        have hzk : G4.1 q_144 = 0 := hz9
                        refine wd_v (cx := []) (wr := [(qn, .inl (cI, 1001, .inl (nF nn))), (qf, .inr (2, [v0, v1])), (qk, .inl (cI, 1001, .inl fk)), (qp, .inr (3, [.ref qc, .ref qt, .ref qf, .int (nI ((b0 + 1) + 1))])), (qt, .inr (1, [w0, w1, .ref qk, .ref ql, .ref qn, .ref qh, .ref qe])), (ql, .inl (cI, 1001, .inl (nF pp))), (qh, .inl (cL, 1001, .inr (.inl fh))), (qe, .inl (cL, 1001, .inr (.inl fl)))]) (pl := va_pl (L ++ [q_6] ++ [nm1] ++ [q_113] ++ [nm2] ++ [q_144]) (gE cO (g0 G4 q_144 4))) (va_runI (As := [.ref q_6, .ref q_113, .null]) (rest := [.ref q_144, .ref lk]) ⟨hx, hb, hml, hown, hts⟩ (p_Link_initN l dC dI cB cI cL cZ cC cO (G := g0 G4 q_144 4) q_144 q_6 q_113 t0 _ hL (g0_q G4 q_144 4)) (cwI 3 hts (good_c k_650) rfl rfl rfl (hts _ k_22) (hts _ k_648) (hts _ k_649) rfl (by decide +kernel) ⟨Nat.le_of_ble_eq_true rfl, Nat.le_of_ble_eq_true rfl⟩) (wd_preS hK hP hD hS hA hF hE [] (by decide) rfl) rfl rfl hl.1 rfl (lv_room (Nat.le_of_ble_eq_true rfl)) d_Parser_parseLink_107 ⟨Nat.le_of_ble_eq_true rfl, Nat.le_of_ble_eq_true rfl⟩) hP hD hS hA [] [0, 1, 2, 3, 4, 5, 6, 7] rfl rfl (by decide) (by decide) (fun _ H locs w_169 hP hD hS => ?_)
                        have hP : va_P (dC, dI) cl ([(qn, .inl (cI, 1001, .inl (nF nn))), (qf, .inr (2, [v0, v1])), (qk, .inl (cI, 1001, .inl fk)), (qp, .inr (3, [.ref qc, .ref qt, .ref qf, .int (nI ((b0 + 1) + 1))])), (qt, .inr (1, [w0, w1, .ref qk, .ref ql, .ref qn, .ref qh, .ref qe])), (ql, .inl (cI, 1001, .inl (nF pp))), (qh, .inl (cL, 1001, .inr (.inl fh))), (qe, .inl (cL, 1001, .inr (.inl fl)))] ++ va_pl (L ++ [q_6] ++ [nm1] ++ [q_113] ++ [nm2] ++ [q_144]) (gE cO (lnk (g0 G4 q_144 4) q_144 q_6 q_113 none))) H := hP
                        have hD : va_D A ([(qn, .inl (cI, 1001, .inl (nF nn))), (qf, .inr (2, [v0, v1])), (qk, .inl (cI, 1001, .inl fk)), (qp, .inr (3, [.ref qc, .ref qt, .ref qf, .int (nI ((b0 + 1) + 1))])), (qt, .inr (1, [w0, w1, .ref qk, .ref ql, .ref qn, .ref qh, .ref qe])), (ql, .inl (cI, 1001, .inl (nF pp))), (qh, .inl (cL, 1001, .inr (.inl fh))), (qe, .inl (cL, 1001, .inr (.inl fl)))] ++ va_pl (L ++ [q_6] ++ [nm1] ++ [q_113] ++ [nm2] ++ [q_144]) (gE cO (lnk (g0 G4 q_144 4) q_144 q_6 q_113 none))) := hD
                        have ik := isK_of (x := q_6) (y := q_113) (z := none) (g0_q G4 q_144 4)
                        have hfr : ∀ b, G4.1 b ≠ 0 → gs G4 (lnk (g0 G4 q_144 4) q_144 q_6 q_113 none) b := fun b h9 => (gs_0 (fun e9 => h9 (by rw [e9]; exact hzk))).tr (lnk_gs (fun e9 => h9 (by rw [e9]; exact hzk)))
                        have hL : gL (L ++ [q_6] ++ [nm1] ++ [q_113] ++ [nm2] ++ [q_144]) (lnk (g0 G4 q_144 4) q_144 q_6 q_113 none) := hL
                        generalize lnk (g0 G4 q_144 4) q_144 q_6 q_113 none = G6 at hP hD ik hfr hL
                        have frek : frh G q_144 := frh.fr (frh0 hzk) (LFs_of fo (fun b => b = lk ∨ b = li))
                        have fs : LFs G G6 (fun b => b = lk ∨ b = li) := LFs.tr (LFs_of fo (fun b => b = lk ∨ b = li)) (LFs_of hfr _)
                        have is1 := is1.keep (hfr q_6 (by rw [is1.1]; decide))
                        have in1 := in1.keep (hfr nm1 (by rw [in1.1]; decide))
                        have is2 := is2.keep (hfr q_113 (by rw [is2.1]; decide))
                        have in2 := in2.keep (hfr nm2 (by rw [in2.1]; decide))
                        have l_lp := LSx_old l_lp hfr
                        have l_li := LSx_old l_li hfr
                        have l_lk := LSx_old l_lk hfr
                        have g_c := fs.gs (by rw [hc]; decide) (by rw [hc]; decide) (nSc)
                        have g_ck := g_c.1.trans hc
                        have g_p := fs.gs (by rw [hp0]; decide) (by rw [hp0]; decide) (nSp)
                        have g_pk := g_p.1.trans hp0
                        have fo := fs
                        refine wd_i (cx := []) (wr := [(qn, .inl (cI, 1001, .inl (nF nn))), (qf, .inr (2, [v0, v1])), (qk, .inl (cI, 1001, .inl fk)), (qp, .inr (3, [.ref qc, .ref qt, .ref qf, .int (nI ((b0 + 1) + 1))])), (qt, .inr (1, [w0, w1, .ref qk, .ref ql, .ref qn, .ref qh, .ref qe])), (ql, .inl (cI, 1001, .inl (nF pp))), (qh, .inl (cL, 1001, .inr (.inl fh))), (qe, .inl (cL, 1001, .inr (.inl fl)))]) (pl := va_pl (L ++ [q_6] ++ [nm1] ++ [q_113] ++ [nm2] ++ [q_144]) (gE cO G6)) (va_runV (As := [.ref q_144]) (rest := []) ⟨hx, hb, hml, hown, hts⟩ (p_List_add l dC dI cB cI cL cZ cC cO (G := G6) lk q_144 zs t0 _ hL l_lk (by rw [ik.1]; decide) (by omega)) (cwV 1 hts (good_V k_551 k_255 k_256 k_7 k_257) rfl rfl rfl (by decide +kernel) ⟨Nat.le_of_ble_eq_true rfl, Nat.le_of_ble_eq_true rfl⟩) (wd_preV (ci := 4) (r := (R_List, F_List, 3)) hK hP hD hS hA hF hE [] (by decide) rfl rfl (pq_at (gL_m hL l_lk.k.1 (by decide)) (gE_7 (G := G6) l_lk.k.1))) rfl rfl hl.1 rfl (lv_room (Nat.le_of_ble_eq_true rfl)) d_Parser_parseLink_110 ⟨Nat.le_of_ble_eq_true rfl, Nat.le_of_ble_eq_true rfl⟩) hP hD hS hA [] [0, 1, 2, 3, 4, 5, 6, 7] rfl rfl (by decide) (by decide) (fun r_172 u7 H locs w_171 hP hD hS => ?_)
                        have hP : va_P (dC, dI) cl ([(qn, .inl (cI, 1001, .inl (nF nn))), (qf, .inr (2, [v0, v1])), (qk, .inl (cI, 1001, .inl fk)), (qp, .inr (3, [.ref qc, .ref qt, .ref qf, .int (nI ((b0 + 1) + 1))])), (qt, .inr (1, [w0, w1, .ref qk, .ref ql, .ref qn, .ref qh, .ref qe])), (ql, .inl (cI, 1001, .inl (nF pp))), (qh, .inl (cL, 1001, .inr (.inl fh))), (qe, .inl (cL, 1001, .inr (.inl fl)))] ++ va_pl u7.1 (gE cO u7.2)) H := hP
                        have hD : va_D A ([(qn, .inl (cI, 1001, .inl (nF nn))), (qf, .inr (2, [v0, v1])), (qk, .inl (cI, 1001, .inl fk)), (qp, .inr (3, [.ref qc, .ref qt, .ref qf, .int (nI ((b0 + 1) + 1))])), (qt, .inr (1, [w0, w1, .ref qk, .ref ql, .ref qn, .ref qh, .ref qe])), (ql, .inl (cI, 1001, .inl (nF pp))), (qh, .inl (cL, 1001, .inr (.inl fh))), (qe, .inl (cL, 1001, .inr (.inl fl)))] ++ va_pl u7.1 (gE cO u7.2)) := hD
                        obtain ⟨r_172e, hu7⟩ := w_171
                        subst r_172e
                        have hL := hu7.2.1
                        have is1 := is1.keep (hu7.2.2.kd2 l_lk.k.1 (by rw [is1.1]; decide))
                        have in1 := in1.keep (hu7.2.2.kd2 l_lk.k.1 (by rw [in1.1]; decide))
                        have is2 := is2.keep (hu7.2.2.kd2 l_lk.k.1 (by rw [is2.1]; decide))
                        have in2 := in2.keep (hu7.2.2.kd2 l_lk.k.1 (by rw [in2.1]; decide))
                        have ik := ik.keep (hu7.2.2.kd2 l_lk.k.1 (by rw [ik.1]; decide))
                        have fq7 : LFs G6 u7.2 (fun b => b = lk ∨ b = li) := (LFs_LF hu7.2.2 l_lk.k.1 hu7.1.k.1).mono (fun _ q9 => Or.inl q9)
                        have l_li := LSx_fs l_li (LFs_LF hu7.2.2 l_lk.k.1 hu7.1.k.1) (fun b q9 e9 => by have q8 : b = lk := e9; rw [q8, l_lk.k.1] at q9; omega) (Ne.symm hne)
                        have fs := fs.tr fq7
                        have l_lk := hu7.1
                        generalize u7.2 = G7 at hP hD hL is1 in1 is2 in2 ik l_li l_lk fs
                        have fo := fs
                        refine lv_pop hx hb d_Parser_parseLink_113 rfl ?_
                        refine lv_iconst (v := nI 1) hx hb d_Parser_parseLink_114 (by decide) ?_
                        have hX : (plk fk pp (((xs.find? (ftk G (fh (b0 + 1)) (fl (b0 + 1))))).isSome || (((ys.find? (ftk G (fh (b0 + 1)) (fl (b0 + 1))))).isSome || decide (ys.length < 30))) a v0 v1) = (true, ((b0 + 1) + 1, v0, v1)) := by unfold plk; (rw [if_pos tk_1, if_pos hr1, hbe, if_pos tk_33, if_pos (show fk (b0 + 1) = nI 10 ∨ fk (b0 + 1) = nI 11 from Or.inr se_108)]) <;> rfl
                        refine W.widen (k := 8) (n := 1230) (by omega) (by omega) ?_
                        exact wr_z (x := true) hx hb hr hlocks (((b0 + 1) + 1, v0, v1), u7.1, G7) ⟨by rw [hX], by rw [hX], ⟨hL, fs⟩, fun _ => ⟨q_144, q_6, nm1, q_113, nm2, none, ⟨frek, fre1s, fre1n, fre2s, fre2n, hs12, hn12⟩, ik, is1, in1, in2, l_lk, Or.inl ⟨Or.inr se_108, by rw [if_neg se_40]; exact is2, rfl, l_li⟩⟩⟩ hK (hP.part [3, 4, 2, 5, 0, 6, 7, 1] rfl) (hD.part [3, 4, 2, 5, 0, 6, 7, 1] (by decide) rfl) hS d_Parser_parseLink_115
                      · exact absurd (se_40d.symm.trans c_112) (by decide)
                  · have se_108d : decide (fk (b0 + 1) = nI 11) = false := by simp [se_108]
                    refine nv_bif_eq (tgt := 116) hx hb d_Parser_parseLink_56 (by decide) (fun c_173 => ?_) (fun c_173 => ?_)
                    · refine lv_aload_n hx hb d_Parser_parseLink_116 rfl (lv_at hl 1 rfl) ?_
                      refine lv_iconst (v := nI 1) hx hb d_Parser_parseLink_117 (by decide) ?_
                      refine we_i (cx := [(qp, .inr (3, [.ref qc, .ref qt, .ref qf, .int (nI (b0 + 1))])), (qt, .inr (1, [w0, w1, .ref qk, .ref ql, .ref qn, .ref qh, .ref qe])), (qk, .inl (cI, 1001, .inl fk)), (ql, .inl (cI, 1001, .inl (nF pp))), (qf, .inr (2, [v0, v1]))]) (wr := [(qn, .inl (cI, 1001, .inl (nF nn))), (qh, .inl (cL, 1001, .inr (.inl fh))), (qe, .inl (cL, 1001, .inr (.inl fl)))]) (pl := va_pl (L ++ [q_6] ++ [nm1]) (gE cO G2)) (va_runV (As := [.int (nI 1)]) (rest := []) ⟨hx, hb, hml, hown, hts⟩ (c_Parser_wantNameWithRoom l dC dI cB cI cL cZ cC cO qp qc qt qf qk ql v0 v1 fk (nF pp) (b0 + 1) true _ (by omega)) (cwV 1 hts (good_V k_538 k_540 s_Parser_wantNameWithRoom k_4 k_541) rfl rfl rfl (by decide +kernel) ⟨Nat.le_of_ble_eq_true rfl, Nat.le_of_ble_eq_true rfl⟩) (wc_preV (k0 := 5) (ci := 3) (r := (R_Parser, F_Parser, 4)) hK hP hD hS hA hF [5, 6, 7, 3, 4] (by decide) rfl rfl rfl) rfl rfl hl.1 rfl (lv_room (Nat.le_of_ble_eq_true rfl)) d_Parser_parseLink_118 ⟨Nat.le_of_ble_eq_true rfl, Nat.le_of_ble_eq_true rfl⟩) hP hD hS hA [5, 6, 7, 3, 4] [0, 1, 2] rfl rfl (by decide) (by decide) (fun r_177 u_175 H locs w_176 hP hD hS => ?_)
                      have hP : va_P (dC, dI) cl ([(qn, .inl (cI, 1001, .inl (nF nn))), (qh, .inl (cL, 1001, .inr (.inl fh))), (qe, .inl (cL, 1001, .inr (.inl fl))), (qp, .inr (3, [.ref qc, .ref qt, .ref qf, .int (nI (b0 + 1))])), (qt, .inr (1, [w0, w1, .ref qk, .ref ql, .ref qn, .ref qh, .ref qe])), (qk, .inl (cI, 1001, .inl fk)), (ql, .inl (cI, 1001, .inl (nF pp))), (qf, .inr (2, [u_175.1, u_175.2]))] ++ va_pl (L ++ [q_6] ++ [nm1]) (gE cO G2)) H := hP
                      have hD : va_D A ([(qn, .inl (cI, 1001, .inl (nF nn))), (qh, .inl (cL, 1001, .inr (.inl fh))), (qe, .inl (cL, 1001, .inr (.inl fl))), (qp, .inr (3, [.ref qc, .ref qt, .ref qf, .int (nI (b0 + 1))])), (qt, .inr (1, [w0, w1, .ref qk, .ref ql, .ref qn, .ref qh, .ref qe])), (qk, .inl (cI, 1001, .inl fk)), (ql, .inl (cI, 1001, .inl (nF pp))), (qf, .inr (2, [u_175.1, u_175.2]))] ++ va_pl (L ++ [q_6] ++ [nm1]) (gE cO G2)) := hD
                      obtain ⟨r_177e, u_175e⟩ := w_176
                      subst r_177e
                      by_cases tk_174 : wn_ok fk (b0 + 1) true = true
                      · rw [wn_T tk_174] at u_175e
                        subst u_175e
                        have hb_tk_174 : (b0 + 1) < 1000 := wn_lt hk3 (by omega) tk_174
                        have hP : va_P (dC, dI) cl ([(qn, .inl (cI, 1001, .inl (nF nn))), (qh, .inl (cL, 1001, .inr (.inl fh))), (qe, .inl (cL, 1001, .inr (.inl fl))), (qp, .inr (3, [.ref qc, .ref qt, .ref qf, .int (nI (b0 + 1))])), (qt, .inr (1, [w0, w1, .ref qk, .ref ql, .ref qn, .ref qh, .ref qe])), (qk, .inl (cI, 1001, .inl fk)), (ql, .inl (cI, 1001, .inl (nF pp))), (qf, .inr (2, [v0, v1]))] ++ va_pl (L ++ [q_6] ++ [nm1]) (gE cO G2)) H := hP
                        have hD : va_D A ([(qn, .inl (cI, 1001, .inl (nF nn))), (qh, .inl (cL, 1001, .inr (.inl fh))), (qe, .inl (cL, 1001, .inr (.inl fl))), (qp, .inr (3, [.ref qc, .ref qt, .ref qf, .int (nI (b0 + 1))])), (qt, .inr (1, [w0, w1, .ref qk, .ref ql, .ref qn, .ref qh, .ref qe])), (qk, .inl (cI, 1001, .inl fk)), (ql, .inl (cI, 1001, .inl (nF pp))), (qf, .inr (2, [v0, v1]))] ++ va_pl (L ++ [q_6] ++ [nm1]) (gE cO G2)) := hD
                        refine nv_bif_ne (tgt := 126) hx hb d_Parser_parseLink_121 (by decide) (fun c_178 => ?_) (fun c_178 => ?_)
                        · refine pq_new (ci := 11) (fs := [.null, .int (nI 0), .int (nI 0), .int (nI 0), .int (nI 0)]) (C := R_Side) (T := F_Side) (N := 5) (fn := fun q9 => gE cO (g0 G2 q9 3)) hx hb hts i_Side t_Side t_Side_ok hown (hts _ k_607) (hts _ k_608) (hts _ k_21) hK hP hD hS hA rfl (fun j hj => by rcases (show j = 0 ∨ j = 1 ∨ j = 2 ∨ j = 3 ∨ j = 4 by omega) with rfl | rfl | rfl | rfl | rfl <;> rfl) (Nat.le_of_ble_eq_true rfl) (Nat.le_of_ble_eq_true rfl) (fun q9 => nE_3 (G := G2) q9) d_Parser_parseLink_126 (fun q_179 H nq_179 hP hD hS => ?_)
                          have kf_180 : (g0 G2 q_179 3).1 q_6 = 3 := (g0_k hL is1.1 (by decide) nq_179)
                          have ne_181 : q_6 ≠ q_179 := g0_ne hL is1.1 (by decide) nq_179
                          have kf_182 : (g0 G2 q_179 3).1 nm1 = 1 := (g0_k hL in1.1 (by decide) nq_179)
                          have ne_183 : nm1 ≠ q_179 := g0_ne hL in1.1 (by decide) nq_179
                          have kf_184 : (g0 G2 q_179 3).1 c0 = 6 := (g0_k hL g_ck (by decide) nq_179)
                          have ne_185 : c0 ≠ q_179 := g0_ne hL g_ck (by decide) nq_179
                          have kf_186 : (g0 G2 q_179 3).1 p0 = 5 := (g0_k hL g_pk (by decide) nq_179)
                          have ne_187 : p0 ≠ q_179 := g0_ne hL g_pk (by decide) nq_179
                          have kf_188 : (g0 G2 q_179 3).1 lp = 7 := (g0_k hL l_lp.k.1 (by decide) nq_179)
                          have ne_189 : lp ≠ q_179 := g0_ne hL l_lp.k.1 (by decide) nq_179
                          have kf_190 : (g0 G2 q_179 3).1 li = 7 := (g0_k hL l_li.k.1 (by decide) nq_179)
                          have ne_191 : li ≠ q_179 := g0_ne hL l_li.k.1 (by decide) nq_179
                          have kf_192 : (g0 G2 q_179 3).1 lk = 7 := (g0_k hL l_lk.k.1 (by decide) nq_179)
                          have ne_193 : lk ≠ q_179 := g0_ne hL l_lk.k.1 (by decide) nq_179
                          have fa_194 : (g0 G2 q_179 3).2.2.2.2.2 c0 3 = some lp := (congrFun ((gs_0 ne_185).2.2.2.2.2) 3).trans (show _ = some lp by rw [g_c.2.2.2.2.2]; exact hpl)
                          have fa_195 : (g0 G2 q_179 3).2.2.2.2.2 c0 4 = some li := (congrFun ((gs_0 ne_185).2.2.2.2.2) 4).trans (show _ = some li by rw [g_c.2.2.2.2.2]; exact hil)
                          have fa_196 : (g0 G2 q_179 3).2.2.2.2.2 p0 1 = some lk := (congrFun ((gs_0 ne_187).2.2.2.2.2) 1).trans (show _ = some lk by rw [g_p.2.2.2.2.2]; exact hlk)
                          have fa_197 : (g0 G2 q_179 3).2.2.2.2.2 q_6 0 = some nm1 := (congrFun ((gs_0 ne_181).2.2.2.2.2) 0).trans is1.2.1
                          have hL0 := hL
                          have hz9 : G2.1 q_179 = 0 := g0_n hL nq_179
                          replace hL := gL_new (a := q_179) (n := 3) hL
                          have hP : va_P (dC, dI) cl ([(qn, .inl (cI, 1001, .inl (nF nn))), (qh, .inl (cL, 1001, .inr (.inl fh))), (qe, .inl (cL, 1001, .inr (.inl fl))), (qp, .inr (3, [.ref qc, .ref qt, .ref qf, .int (nI (b0 + 1))])), (qt, .inr (1, [w0, w1, .ref qk, .ref ql, .ref qn, .ref qh, .ref qe])), (qk, .inl (cI, 1001, .inl fk)), (ql, .inl (cI, 1001, .inl (nF pp))), (qf, .inr (2, [v0, v1]))] ++ va_pl (L ++ [q_6] ++ [nm1] ++ [q_179]) (gE cO (g0 G2 q_179 3))) H := hP
                          have hD : va_D A ([(qn, .inl (cI, 1001, .inl (nF nn))), (qh, .inl (cL, 1001, .inr (.inl fh))), (qe, .inl (cL, 1001, .inr (.inl fl))), (qp, .inr (3, [.ref qc, .ref qt, .ref qf, .int (nI (b0 + 1))])), (qt, .inr (1, [w0, w1, .ref qk, .ref ql, .ref qn, .ref qh, .ref qe])), (qk, .inl (cI, 1001, .inl fk)), (ql, .inl (cI, 1001, .inl (nF pp))), (qf, .inr (2, [v0, v1]))] ++ va_pl (L ++ [q_6] ++ [nm1] ++ [q_179]) (gE cO (g0 G2 q_179 3))) := hD
                          refine lv_dup hx hb d_Parser_parseLink_129 rfl ?_
                          refine lv_aload_n hx hb d_Parser_parseLink_130 rfl (lv_at hl 1 rfl) ?_
                          have hzq2 : G2.1 q_179 = 0 := hz9
                          refine we_q (cx := [(qp, .inr (3, [.ref qc, .ref qt, .ref qf, .int (nI (b0 + 1))])), (qt, .inr (1, [w0, w1, .ref qk, .ref ql, .ref qn, .ref qh, .ref qe])), (ql, .inl (cI, 1001, .inl (nF pp))), (qh, .inl (cL, 1001, .inr (.inl fh))), (qe, .inl (cL, 1001, .inr (.inl fl)))]) (wr := [(qn, .inl (cI, 1001, .inl (nF nn))), (qk, .inl (cI, 1001, .inl fk)), (qf, .inr (2, [v0, v1]))]) (pl := va_pl (L ++ [q_6] ++ [nm1] ++ [q_179]) (gE cO (g0 G2 q_179 3))) (va_runV (As := []) (rest := [.ref q_179, .ref q_179]) ⟨hx, hb, hml, hown, hts⟩ (c_Parser_takeName l dC dI cB cI cL cZ cC cO qp qt ql qh qe (nF pp) fh fl (b0 + 1) _ (by omega)) (cwV 0 hts (good_V k_543 k_545 s_Parser_takeName k_4 k_546) rfl rfl rfl (by decide +kernel) ⟨Nat.le_of_ble_eq_true rfl, Nat.le_of_ble_eq_true rfl⟩) (wc_preV (k0 := 3) (ci := 3) (r := (R_Parser, F_Parser, 4)) hK hP hD hS hA hF [3, 4, 6, 1, 2] (by decide) rfl rfl rfl) rfl rfl hl.1 rfl (lv_room (Nat.le_of_ble_eq_true rfl)) d_Parser_parseLink_131 ⟨Nat.le_of_ble_eq_true rfl, Nat.le_of_ble_eq_true rfl⟩) hP hD hS hA [3, 4, 6, 1, 2] [0, 5, 7] rfl rfl (by decide) (by decide) (fun r_199 nm2 H locs w_198 hP hD hS => ?_)
                          have hP : va_P (dC, dI) cl ([(qn, .inl (cI, 1001, .inl (nF nn))), (qk, .inl (cI, 1001, .inl fk)), (qf, .inr (2, [v0, v1])), (qp, .inr (3, [.ref qc, .ref qt, .ref qf, .int (nI (min (b0 + 1 + 1) 1000))])), (qt, .inr (1, [w0, w1, .ref qk, .ref ql, .ref qn, .ref qh, .ref qe])), (ql, .inl (cI, 1001, .inl (nF pp))), (qh, .inl (cL, 1001, .inr (.inl fh))), (qe, .inl (cL, 1001, .inr (.inl fl))), (nm2, .inr (7, [.long (fh (b0 + 1)), .long (fl (b0 + 1)), .int (nI (pp (b0 + 1)))]))] ++ va_pl (L ++ [q_6] ++ [nm1] ++ [q_179]) (gE cO (g0 G2 q_179 3))) H := hP
                          have hD : va_D A ([(qn, .inl (cI, 1001, .inl (nF nn))), (qk, .inl (cI, 1001, .inl fk)), (qf, .inr (2, [v0, v1])), (qp, .inr (3, [.ref qc, .ref qt, .ref qf, .int (nI (min (b0 + 1 + 1) 1000))])), (qt, .inr (1, [w0, w1, .ref qk, .ref ql, .ref qn, .ref qh, .ref qe])), (ql, .inl (cI, 1001, .inl (nF pp))), (qh, .inl (cL, 1001, .inr (.inl fh))), (qe, .inl (cL, 1001, .inr (.inl fl))), (nm2, .inr (7, [.long (fh (b0 + 1)), .long (fl (b0 + 1)), .int (nI (pp (b0 + 1)))]))] ++ va_pl (L ++ [q_6] ++ [nm1] ++ [q_179]) (gE cO (g0 G2 q_179 3))) := hD
                          subst w_198
                          obtain ⟨nnm2, hP, hD⟩ := pq_in (X := [(qn, .inl (cI, 1001, .inl (nF nn))), (qk, .inl (cI, 1001, .inl fk)), (qf, .inr (2, [v0, v1])), (qp, .inr (3, [.ref qc, .ref qt, .ref qf, .int (nI (min (b0 + 1 + 1) 1000))])), (qt, .inr (1, [w0, w1, .ref qk, .ref ql, .ref qn, .ref qh, .ref qe])), (ql, .inl (cI, 1001, .inl (nF pp))), (qh, .inl (cL, 1001, .inr (.inl fh))), (qe, .inl (cL, 1001, .inr (.inl fl)))]) hP hD
                          have hP : va_P (dC, dI) cl ([(qn, .inl (cI, 1001, .inl (nF nn))), (qk, .inl (cI, 1001, .inl fk)), (qf, .inr (2, [v0, v1])), (qp, .inr (3, [.ref qc, .ref qt, .ref qf, .int (nI (min (b0 + 1 + 1) 1000))])), (qt, .inr (1, [w0, w1, .ref qk, .ref ql, .ref qn, .ref qh, .ref qe])), (ql, .inl (cI, 1001, .inl (nF pp))), (qh, .inl (cL, 1001, .inr (.inl fh))), (qe, .inl (cL, 1001, .inr (.inl fl)))] ++ va_pl (L ++ [q_6] ++ [nm1] ++ [q_179] ++ [nm2]) (gE cO (nam (g0 G2 q_179 3) nm2 (fh (b0 + 1)) (fl (b0 + 1)) (some (pp (b0 + 1)))))) H := by rw [← namE]; exact hP
                          have hD : va_D A ([(qn, .inl (cI, 1001, .inl (nF nn))), (qk, .inl (cI, 1001, .inl fk)), (qf, .inr (2, [v0, v1])), (qp, .inr (3, [.ref qc, .ref qt, .ref qf, .int (nI (min (b0 + 1 + 1) 1000))])), (qt, .inr (1, [w0, w1, .ref qk, .ref ql, .ref qn, .ref qh, .ref qe])), (ql, .inl (cI, 1001, .inl (nF pp))), (qh, .inl (cL, 1001, .inr (.inl fh))), (qe, .inl (cL, 1001, .inr (.inl fl)))] ++ va_pl (L ++ [q_6] ++ [nm1] ++ [q_179] ++ [nm2]) (gE cO (nam (g0 G2 q_179 3) nm2 (fh (b0 + 1)) (fl (b0 + 1)) (some (pp (b0 + 1)))))) := by rw [← namE]; exact hD
                          obtain ⟨z21, z22, z23⟩ := isN_new (q := nm2) (hh := fh (b0 + 1)) (tt := fl (b0 + 1)) (pl := some (pp (b0 + 1))) hL
                          have hq2 : (g0 G2 q_179 3).1 nm2 = 0 := g0_n hL nnm2
                          generalize nam (g0 G2 q_179 3) nm2 (fh (b0 + 1)) (fl (b0 + 1)) (some (pp (b0 + 1))) = T2 at hP hD z21 z22 z23
                          have hL := z22
                          rw [show min (b0 + 1 + 1) 1000 = b0 + 1 + 1 by omega] at hP hD
                          have hP : va_P (dC, dI) cl ([(qn, .inl (cI, 1001, .inl (nF nn))), (qk, .inl (cI, 1001, .inl fk)), (qf, .inr (2, [v0, v1])), (qp, .inr (3, [.ref qc, .ref qt, .ref qf, .int (nI ((b0 + 1) + 1))])), (qt, .inr (1, [w0, w1, .ref qk, .ref ql, .ref qn, .ref qh, .ref qe])), (ql, .inl (cI, 1001, .inl (nF pp))), (qh, .inl (cL, 1001, .inr (.inl fh))), (qe, .inl (cL, 1001, .inr (.inl fl)))] ++ va_pl (L ++ [q_6] ++ [nm1] ++ [q_179] ++ [nm2]) (gE cO T2)) H := hP
                          have hD : va_D A ([(qn, .inl (cI, 1001, .inl (nF nn))), (qk, .inl (cI, 1001, .inl fk)), (qf, .inr (2, [v0, v1])), (qp, .inr (3, [.ref qc, .ref qt, .ref qf, .int (nI ((b0 + 1) + 1))])), (qt, .inr (1, [w0, w1, .ref qk, .ref ql, .ref qn, .ref qh, .ref qe])), (ql, .inl (cI, 1001, .inl (nF pp))), (qh, .inl (cL, 1001, .inr (.inl fh))), (qe, .inl (cL, 1001, .inr (.inl fl)))] ++ va_pl (L ++ [q_6] ++ [nm1] ++ [q_179] ++ [nm2]) (gE cO T2)) := hD
                          have kf_200 : T2.1 q_6 = 3 := (z23 q_6 (fun e9 => absurd ((kf_180).symm.trans ((congrArg (g0 G2 q_179 3).1 e9).trans hq2)) (by decide))).1.trans kf_180
                          have kf_201 : T2.1 nm1 = 1 := (z23 nm1 (fun e9 => absurd ((kf_182).symm.trans ((congrArg (g0 G2 q_179 3).1 e9).trans hq2)) (by decide))).1.trans kf_182
                          have kf_202 : T2.1 c0 = 6 := (z23 c0 (fun e9 => absurd ((kf_184).symm.trans ((congrArg (g0 G2 q_179 3).1 e9).trans hq2)) (by decide))).1.trans kf_184
                          have kf_203 : T2.1 p0 = 5 := (z23 p0 (fun e9 => absurd ((kf_186).symm.trans ((congrArg (g0 G2 q_179 3).1 e9).trans hq2)) (by decide))).1.trans kf_186
                          have kf_204 : T2.1 lp = 7 := (z23 lp (fun e9 => absurd ((kf_188).symm.trans ((congrArg (g0 G2 q_179 3).1 e9).trans hq2)) (by decide))).1.trans kf_188
                          have kf_205 : T2.1 li = 7 := (z23 li (fun e9 => absurd ((kf_190).symm.trans ((congrArg (g0 G2 q_179 3).1 e9).trans hq2)) (by decide))).1.trans kf_190
                          have kf_206 : T2.1 lk = 7 := (z23 lk (fun e9 => absurd ((kf_192).symm.trans ((congrArg (g0 G2 q_179 3).1 e9).trans hq2)) (by decide))).1.trans kf_192
                          have kf_207 : T2.1 q_179 = 3 := (z23 q_179 (fun e9 => absurd (((g0_q G2 q_179 3)).symm.trans ((congrArg (g0 G2 q_179 3).1 e9).trans hq2)) (by decide))).1.trans (g0_q G2 q_179 3)
                          refine wd_v (cx := []) (wr := [(qn, .inl (cI, 1001, .inl (nF nn))), (qk, .inl (cI, 1001, .inl fk)), (qf, .inr (2, [v0, v1])), (qp, .inr (3, [.ref qc, .ref qt, .ref qf, .int (nI ((b0 + 1) + 1))])), (qt, .inr (1, [w0, w1, .ref qk, .ref ql, .ref qn, .ref qh, .ref qe])), (ql, .inl (cI, 1001, .inl (nF pp))), (qh, .inl (cL, 1001, .inr (.inl fh))), (qe, .inl (cL, 1001, .inr (.inl fl)))]) (pl := va_pl (L ++ [q_6] ++ [nm1] ++ [q_179] ++ [nm2]) (gE cO T2)) (va_runI (As := [.ref nm2]) (rest := [.ref q_179]) ⟨hx, hb, hml, hown, hts⟩ (p_Side_init l dC dI cB cI cL cZ cC cO (G := T2) q_179 nm2 t0 _ hL kf_207) (cwI 1 hts (good_c k_611) rfl rfl rfl (hts _ k_21) (hts _ k_609) (hts _ k_610) rfl (by decide +kernel) ⟨Nat.le_of_ble_eq_true rfl, Nat.le_of_ble_eq_true rfl⟩) (wd_preS hK hP hD hS hA hF hE [] (by decide) rfl) rfl rfl hl.1 rfl (lv_room (Nat.le_of_ble_eq_true rfl)) d_Parser_parseLink_134 ⟨Nat.le_of_ble_eq_true rfl, Nat.le_of_ble_eq_true rfl⟩) hP hD hS hA [] [0, 1, 2, 3, 4, 5, 6, 7] rfl rfl (by decide) (by decide) (fun _ H locs w_208 hP hD hS => ?_)
                          have hP : va_P (dC, dI) cl ([(qn, .inl (cI, 1001, .inl (nF nn))), (qk, .inl (cI, 1001, .inl fk)), (qf, .inr (2, [v0, v1])), (qp, .inr (3, [.ref qc, .ref qt, .ref qf, .int (nI ((b0 + 1) + 1))])), (qt, .inr (1, [w0, w1, .ref qk, .ref ql, .ref qn, .ref qh, .ref qe])), (ql, .inl (cI, 1001, .inl (nF pp))), (qh, .inl (cL, 1001, .inr (.inl fh))), (qe, .inl (cL, 1001, .inr (.inl fl)))] ++ va_pl (L ++ [q_6] ++ [nm1] ++ [q_179] ++ [nm2]) (gE cO (sid T2 q_179 nm2))) H := hP
                          have hD : va_D A ([(qn, .inl (cI, 1001, .inl (nF nn))), (qk, .inl (cI, 1001, .inl fk)), (qf, .inr (2, [v0, v1])), (qp, .inr (3, [.ref qc, .ref qt, .ref qf, .int (nI ((b0 + 1) + 1))])), (qt, .inr (1, [w0, w1, .ref qk, .ref ql, .ref qn, .ref qh, .ref qe])), (ql, .inl (cI, 1001, .inl (nF pp))), (qh, .inl (cL, 1001, .inr (.inl fh))), (qe, .inl (cL, 1001, .inr (.inl fl)))] ++ va_pl (L ++ [q_6] ++ [nm1] ++ [q_179] ++ [nm2]) (gE cO (sid T2 q_179 nm2))) := hD
                          have is2 := isS_of (nm := nm2) kf_207
                          have hqn2 : q_179 ≠ nm2 := fun e9 => by have q9 := kf_207; rw [e9, z21.1] at q9; cases q9
                          have in2 : isN (sid T2 q_179 nm2) nm2 _ _ _ := z21.keep (sid_gs (Ne.symm hqn2))
                          have hnm2 : G2.1 nm2 = 0 := by have q9 := hq2; rw [(gs_0 (Ne.symm hqn2)).1] at q9; exact q9
                          have hfr : ∀ b, G2.1 b ≠ 0 → gs G2 (sid T2 q_179 nm2) b := fun b h9 => ((gs_0 (fun e9 => h9 (by rw [e9]; exact hzq2))).tr (z23 b (fun e9 => h9 (by rw [e9]; exact hnm2)))).tr (sid_gs (fun e9 => h9 (by rw [e9]; exact hzq2)))
                          have hL : gL (L ++ [q_6] ++ [nm1] ++ [q_179] ++ [nm2]) (sid T2 q_179 nm2) := hL
                          generalize sid T2 q_179 nm2 = G3 at hP hD is2 in2 hfr hL
                          have fre2z : G.1 q_179 = 0 := Classical.byContradiction (fun h9 => h9 ((fo q_179 h9).1.symm.trans hzq2))
                          have fre2s : frh G q_179 := frh.fr (frh0 hzq2) (LFs_of fo (fun _ => False))
                          have fre2n : frh G nm2 := frh.fr (frh0 hnm2) (LFs_of fo (fun _ => False))
                          have hs12 : q_6 ≠ q_179 := fun e9 => by have q9 := is1.1; rw [e9, hzq2] at q9; cases q9
                          have hn12 : nm1 ≠ nm2 := fun e9 => by have q9 := in1.1; rw [e9, hnm2] at q9; cases q9
                          have fo : ∀ b, G.1 b ≠ 0 → gs G G3 b := (fun b h9 => (fo b h9).tr (hfr b (by rw [(fo b h9).1]; exact h9)))
                          have is1 := is1.keep (hfr q_6 (by rw [is1.1]; decide))
                          have in1 := in1.keep (hfr nm1 (by rw [in1.1]; decide))
                          have g_c := fo c0 (by rw [hc]; decide)
                          have g_ck := g_c.1.trans hc
                          have g_p := fo p0 (by rw [hp0]; decide)
                          have g_pk := g_p.1.trans hp0
                          have l_lp := LSx_old l_lp hfr
                          have l_li := LSx_old l_li hfr
                          have l_lk := LSx_old l_lk hfr
                          refine lv_astore (lv' := [(4, .ref q_179), (3, .ref q_6), (0, .ref qp), (1, .ref c0), (2, .ref p0)]) hx hb d_Parser_parseLink_137 hl (by decide) rfl (fun ls hl => ?_)
                          refine lv_aload_n hx hb d_Parser_parseLink_139 rfl (lv_at hl 3 rfl) ?_
                          refine lv_aload hx hb d_Parser_parseLink_140 (lv_at hl 0 rfl) ?_
                          refine pq_get (D := (dC, dI)) (ci := 11) (v := .ref nm2) (C := R_Side) (T := F_Side) (N := 5) hx hb hts i_Side hown hK hP (gL_m hL is2.1 (by decide)) (gE_3 (G := G3) is2.1) rfl 0 (by decide) (hts _ k_615) (fun _ h9 => h9) (congrArg (fun z9 => some (va_rf z9)) is2.2.1) d_Parser_parseLink_142 ?_
                          have ef1 := fnd_eq hw fo in2
                          have ef2 := fnd_eq hw2 fo in2
                          have hwa := hw_old hw fo
                          have hwb := hw_old hw2 fo
                          refine wd_q (cx := []) (wr := [(qn, .inl (cI, 1001, .inl (nF nn))), (qk, .inl (cI, 1001, .inl fk)), (qf, .inr (2, [v0, v1])), (qp, .inr (3, [.ref qc, .ref qt, .ref qf, .int (nI ((b0 + 1) + 1))])), (qt, .inr (1, [w0, w1, .ref qk, .ref ql, .ref qn, .ref qh, .ref qe])), (ql, .inl (cI, 1001, .inl (nF pp))), (qh, .inl (cL, 1001, .inr (.inl fh))), (qe, .inl (cL, 1001, .inr (.inl fl)))]) (pl := va_pl (L ++ [q_6] ++ [nm1] ++ [q_179] ++ [nm2]) (gE cO G3)) (va_runS (As := [.ref c0, .ref nm2]) (rest := []) ⟨hx, hb, hml, hown, hts⟩ (p_Parser_findOrAddInner l dC dI cB cI cL cZ cC cO (G := G3) c0 nm2 lp li xs ys t0 _ hL g_ck (by rw [g_c.2.2.2.2.2]; exact hpl) (by rw [g_c.2.2.2.2.2]; exact hil) l_lp l_li (by omega) (by omega) hwa hwb in2.1) (va_cwS 2 hts (good_S k_673 k_674 k_4 k_675) rfl rfl rfl (by decide +kernel) ⟨Nat.le_of_ble_eq_true rfl, Nat.le_of_ble_eq_true rfl⟩) (wd_preS hK hP hD hS hA hF hE [] (by decide) rfl) rfl rfl hl.1 rfl (lv_room (Nat.le_of_ble_eq_true rfl)) d_Parser_parseLink_145 ⟨Nat.le_of_ble_eq_true rfl, Nat.le_of_ble_eq_true rfl⟩) hP hD hS hA [] [0, 1, 2, 3, 4, 5, 6, 7] rfl rfl (by decide) (by decide) (fun r_211 u5 H locs w_210 hP hD hS => ?_)
                          have hP : va_P (dC, dI) cl ([(qn, .inl (cI, 1001, .inl (nF nn))), (qk, .inl (cI, 1001, .inl fk)), (qf, .inr (2, [v0, v1])), (qp, .inr (3, [.ref qc, .ref qt, .ref qf, .int (nI ((b0 + 1) + 1))])), (qt, .inr (1, [w0, w1, .ref qk, .ref ql, .ref qn, .ref qh, .ref qe])), (ql, .inl (cI, 1001, .inl (nF pp))), (qh, .inl (cL, 1001, .inr (.inl fh))), (qe, .inl (cL, 1001, .inr (.inl fl)))] ++ va_pl u5.1 (gE cO u5.2)) H := hP
                          have hD : va_D A ([(qn, .inl (cI, 1001, .inl (nF nn))), (qk, .inl (cI, 1001, .inl fk)), (qf, .inr (2, [v0, v1])), (qp, .inr (3, [.ref qc, .ref qt, .ref qf, .int (nI ((b0 + 1) + 1))])), (qt, .inr (1, [w0, w1, .ref qk, .ref ql, .ref qn, .ref qh, .ref qe])), (ql, .inl (cI, 1001, .inl (nF pp))), (qh, .inl (cL, 1001, .inr (.inl fh))), (qe, .inl (cL, 1001, .inr (.inl fl)))] ++ va_pl u5.1 (gE cO u5.2)) := hD
                          rw [ef1, ef2] at w_210
                          rcases w_210 with ⟨x5, hx5, r_211e, u5e⟩ | ⟨hf1, hf2, h30, r_211e, u5e⟩ | ⟨hf1, hf2, h30, w5, r_211e, nw5, iw, hl5, hg5, hlf5⟩
                          · subst r_211e
                            subst u5e
                            have hP : va_P (dC, dI) cl ([(qn, .inl (cI, 1001, .inl (nF nn))), (qk, .inl (cI, 1001, .inl fk)), (qf, .inr (2, [v0, v1])), (qp, .inr (3, [.ref qc, .ref qt, .ref qf, .int (nI ((b0 + 1) + 1))])), (qt, .inr (1, [w0, w1, .ref qk, .ref ql, .ref qn, .ref qh, .ref qe])), (ql, .inl (cI, 1001, .inl (nF pp))), (qh, .inl (cL, 1001, .inr (.inl fh))), (qe, .inl (cL, 1001, .inr (.inl fl)))] ++ va_pl (L ++ [q_6] ++ [nm1] ++ [q_179] ++ [nm2]) (gE cO G3)) H := hP
                            have hD : va_D A ([(qn, .inl (cI, 1001, .inl (nF nn))), (qk, .inl (cI, 1001, .inl fk)), (qf, .inr (2, [v0, v1])), (qp, .inr (3, [.ref qc, .ref qt, .ref qf, .int (nI ((b0 + 1) + 1))])), (qt, .inr (1, [w0, w1, .ref qk, .ref ql, .ref qn, .ref qh, .ref qe])), (ql, .inl (cI, 1001, .inl (nF pp))), (qh, .inl (cL, 1001, .inr (.inl fh))), (qe, .inl (cL, 1001, .inr (.inl fl)))] ++ va_pl (L ++ [q_6] ++ [nm1] ++ [q_179] ++ [nm2]) (gE cO G3)) := hD
                            have kx5 : G3.1 x5 = 2 := by
                              rcases hx5 with q9 | q9
                              · exact (hwa x5 (List.mem_of_find?_eq_some q9)).1
                              · exact (hwb x5 (List.mem_of_find?_eq_some q9.2)).1
                            refine lv_astore (lv' := [(5, .ref x5), (4, .ref q_179), (3, .ref q_6), (0, .ref qp), (1, .ref c0), (2, .ref p0)]) hx hb d_Parser_parseLink_148 hl (by decide) rfl (fun ls hl => ?_)
                            refine lv_aload hx hb d_Parser_parseLink_150 (lv_at hl 0 rfl) ?_
                            refine lv_ifnonnull (tgt := 172) hx hb d_Parser_parseLink_152 (by decide) ?_
                            refine lv_aload_n hx hb d_Parser_parseLink_172 rfl (lv_at hl 5 rfl) ?_
                            refine pq_get (D := (dC, dI)) (ci := 10) (v := .ref lk) (C := R_Part) (T := F_Part) (N := 3) hx hb hts i_Part hown hK hP (gL_m hL g_pk (by decide)) (gE_5 (G := G3) g_pk) rfl 1 (by decide) (hts _ k_588) (fun _ h9 => h9) (congrArg (fun z9 => some (va_rf z9)) (show _ = some lk by rw [g_p.2.2.2.2.2]; exact hlk)) d_Parser_parseLink_173 ?_
                            refine pq_new (ci := 12) (fs := [.null, .null, .null, .null]) (C := R_Link) (T := F_Link) (N := 4) (fn := fun q9 => gE cO (g0 G3 q9 4)) hx hb hts i_Link t_Link t_Link_ok hown (hts _ k_646) (hts _ k_647) (hts _ k_22) hK hP hD hS hA rfl (fun j hj => by rcases (show j = 0 ∨ j = 1 ∨ j = 2 ∨ j = 3 by omega) with rfl | rfl | rfl | rfl <;> rfl) (Nat.le_of_ble_eq_true rfl) (Nat.le_of_ble_eq_true rfl) (fun q9 => nE_4 (G := G3) q9) d_Parser_parseLink_176 (fun q_212 H nq_212 hP hD hS => ?_)
                            have kf_213 : (g0 G3 q_212 4).1 q_6 = 3 := (g0_k hL is1.1 (by decide) nq_212)
                            have ne_214 : q_6 ≠ q_212 := g0_ne hL is1.1 (by decide) nq_212
                            have kf_215 : (g0 G3 q_212 4).1 nm1 = 1 := (g0_k hL in1.1 (by decide) nq_212)
                            have ne_216 : nm1 ≠ q_212 := g0_ne hL in1.1 (by decide) nq_212
                            have kf_217 : (g0 G3 q_212 4).1 q_179 = 3 := (g0_k hL is2.1 (by decide) nq_212)
                            have ne_218 : q_179 ≠ q_212 := g0_ne hL is2.1 (by decide) nq_212
                            have kf_219 : (g0 G3 q_212 4).1 nm2 = 1 := (g0_k hL in2.1 (by decide) nq_212)
                            have ne_220 : nm2 ≠ q_212 := g0_ne hL in2.1 (by decide) nq_212
                            have kf_221 : (g0 G3 q_212 4).1 c0 = 6 := (g0_k hL g_ck (by decide) nq_212)
                            have ne_222 : c0 ≠ q_212 := g0_ne hL g_ck (by decide) nq_212
                            have kf_223 : (g0 G3 q_212 4).1 p0 = 5 := (g0_k hL g_pk (by decide) nq_212)
                            have ne_224 : p0 ≠ q_212 := g0_ne hL g_pk (by decide) nq_212
                            have kf_225 : (g0 G3 q_212 4).1 lp = 7 := (g0_k hL l_lp.k.1 (by decide) nq_212)
                            have ne_226 : lp ≠ q_212 := g0_ne hL l_lp.k.1 (by decide) nq_212
                            have kf_227 : (g0 G3 q_212 4).1 li = 7 := (g0_k hL l_li.k.1 (by decide) nq_212)
                            have ne_228 : li ≠ q_212 := g0_ne hL l_li.k.1 (by decide) nq_212
                            have kf_229 : (g0 G3 q_212 4).1 lk = 7 := (g0_k hL l_lk.k.1 (by decide) nq_212)
                            have ne_230 : lk ≠ q_212 := g0_ne hL l_lk.k.1 (by decide) nq_212
                            have kf_231 : (g0 G3 q_212 4).1 x5 = 2 := (g0_k hL kx5 (by decide) nq_212)
                            have ne_232 : x5 ≠ q_212 := g0_ne hL kx5 (by decide) nq_212
                            have fa_233 : (g0 G3 q_212 4).2.2.2.2.2 c0 3 = some lp := (congrFun ((gs_0 ne_222).2.2.2.2.2) 3).trans (show _ = some lp by rw [g_c.2.2.2.2.2]; exact hpl)
                            have fa_234 : (g0 G3 q_212 4).2.2.2.2.2 c0 4 = some li := (congrFun ((gs_0 ne_222).2.2.2.2.2) 4).trans (show _ = some li by rw [g_c.2.2.2.2.2]; exact hil)
                            have fa_235 : (g0 G3 q_212 4).2.2.2.2.2 p0 1 = some lk := (congrFun ((gs_0 ne_224).2.2.2.2.2) 1).trans (show _ = some lk by rw [g_p.2.2.2.2.2]; exact hlk)
                            have fa_236 : (g0 G3 q_212 4).2.2.2.2.2 q_6 0 = some nm1 := (congrFun ((gs_0 ne_214).2.2.2.2.2) 0).trans is1.2.1
                            have fa_237 : (g0 G3 q_212 4).2.2.2.2.2 q_179 0 = some nm2 := (congrFun ((gs_0 ne_218).2.2.2.2.2) 0).trans is2.2.1
                            have fa_238 : (g0 G3 q_212 4).2.2.1 nm2 2 = some (pp (b0 + 1)) := (congrFun ((gs_0 ne_220).2.2.1) 2).trans in2.2.2.2
                            have hL0 := hL
                            have hz9 : G3.1 q_212 = 0 := g0_n hL nq_212
                            replace hL := gL_new (a := q_212) (n := 4) hL
                            have hP : va_P (dC, dI) cl ([(qn, .inl (cI, 1001, .inl (nF nn))), (qk, .inl (cI, 1001, .inl fk)), (qf, .inr (2, [v0, v1])), (qp, .inr (3, [.ref qc, .ref qt, .ref qf, .int (nI ((b0 + 1) + 1))])), (qt, .inr (1, [w0, w1, .ref qk, .ref ql, .ref qn, .ref qh, .ref qe])), (ql, .inl (cI, 1001, .inl (nF pp))), (qh, .inl (cL, 1001, .inr (.inl fh))), (qe, .inl (cL, 1001, .inr (.inl fl)))] ++ va_pl (L ++ [q_6] ++ [nm1] ++ [q_179] ++ [nm2] ++ [q_212]) (gE cO (g0 G3 q_212 4))) H := hP
                            have hD : va_D A ([(qn, .inl (cI, 1001, .inl (nF nn))), (qk, .inl (cI, 1001, .inl fk)), (qf, .inr (2, [v0, v1])), (qp, .inr (3, [.ref qc, .ref qt, .ref qf, .int (nI ((b0 + 1) + 1))])), (qt, .inr (1, [w0, w1, .ref qk, .ref ql, .ref qn, .ref qh, .ref qe])), (ql, .inl (cI, 1001, .inl (nF pp))), (qh, .inl (cL, 1001, .inr (.inl fh))), (qe, .inl (cL, 1001, .inr (.inl fl)))] ++ va_pl (L ++ [q_6] ++ [nm1] ++ [q_179] ++ [nm2] ++ [q_212]) (gE cO (g0 G3 q_212 4))) := hD
                            refine lv_dup hx hb d_Parser_parseLink_179 rfl ?_
                            refine lv_aload_n hx hb d_Parser_parseLink_180 rfl (lv_at hl 2 rfl) ?_
                            refine lv_aload hx hb d_Parser_parseLink_181 (lv_at hl 1 rfl) ?_
                            refine lv_aload hx hb d_Parser_parseLink_183 (lv_at hl 0 rfl) ?_
                            have hzk : G3.1 q_212 = 0 := hz9
                            refine wd_v (cx := []) (wr := [(qn, .inl (cI, 1001, .inl (nF nn))), (qk, .inl (cI, 1001, .inl fk)), (qf, .inr (2, [v0, v1])), (qp, .inr (3, [.ref qc, .ref qt, .ref qf, .int (nI ((b0 + 1) + 1))])), (qt, .inr (1, [w0, w1, .ref qk, .ref ql, .ref qn, .ref qh, .ref qe])), (ql, .inl (cI, 1001, .inl (nF pp))), (qh, .inl (cL, 1001, .inr (.inl fh))), (qe, .inl (cL, 1001, .inr (.inl fl)))]) (pl := va_pl (L ++ [q_6] ++ [nm1] ++ [q_179] ++ [nm2] ++ [q_212]) (gE cO (g0 G3 q_212 4))) (va_runI (As := [.ref q_6, .ref q_179, .ref x5]) (rest := [.ref q_212, .ref lk]) ⟨hx, hb, hml, hown, hts⟩ (p_Link_initS l dC dI cB cI cL cZ cC cO (G := g0 G3 q_212 4) q_212 q_6 q_179 x5 t0 _ hL (g0_q G3 q_212 4)) (cwI 3 hts (good_c k_650) rfl rfl rfl (hts _ k_22) (hts _ k_648) (hts _ k_649) rfl (by decide +kernel) ⟨Nat.le_of_ble_eq_true rfl, Nat.le_of_ble_eq_true rfl⟩) (wd_preS hK hP hD hS hA hF hE [] (by decide) rfl) rfl rfl hl.1 rfl (lv_room (Nat.le_of_ble_eq_true rfl)) d_Parser_parseLink_185 ⟨Nat.le_of_ble_eq_true rfl, Nat.le_of_ble_eq_true rfl⟩) hP hD hS hA [] [0, 1, 2, 3, 4, 5, 6, 7] rfl rfl (by decide) (by decide) (fun _ H locs w_239 hP hD hS => ?_)
                            have hP : va_P (dC, dI) cl ([(qn, .inl (cI, 1001, .inl (nF nn))), (qk, .inl (cI, 1001, .inl fk)), (qf, .inr (2, [v0, v1])), (qp, .inr (3, [.ref qc, .ref qt, .ref qf, .int (nI ((b0 + 1) + 1))])), (qt, .inr (1, [w0, w1, .ref qk, .ref ql, .ref qn, .ref qh, .ref qe])), (ql, .inl (cI, 1001, .inl (nF pp))), (qh, .inl (cL, 1001, .inr (.inl fh))), (qe, .inl (cL, 1001, .inr (.inl fl)))] ++ va_pl (L ++ [q_6] ++ [nm1] ++ [q_179] ++ [nm2] ++ [q_212]) (gE cO (lnk (g0 G3 q_212 4) q_212 q_6 q_179 (some x5)))) H := hP
                            have hD : va_D A ([(qn, .inl (cI, 1001, .inl (nF nn))), (qk, .inl (cI, 1001, .inl fk)), (qf, .inr (2, [v0, v1])), (qp, .inr (3, [.ref qc, .ref qt, .ref qf, .int (nI ((b0 + 1) + 1))])), (qt, .inr (1, [w0, w1, .ref qk, .ref ql, .ref qn, .ref qh, .ref qe])), (ql, .inl (cI, 1001, .inl (nF pp))), (qh, .inl (cL, 1001, .inr (.inl fh))), (qe, .inl (cL, 1001, .inr (.inl fl)))] ++ va_pl (L ++ [q_6] ++ [nm1] ++ [q_179] ++ [nm2] ++ [q_212]) (gE cO (lnk (g0 G3 q_212 4) q_212 q_6 q_179 (some x5)))) := hD
                            have ik := isK_of (x := q_6) (y := q_179) (z := (some x5)) (g0_q G3 q_212 4)
                            have hfr : ∀ b, G3.1 b ≠ 0 → gs G3 (lnk (g0 G3 q_212 4) q_212 q_6 q_179 (some x5)) b := fun b h9 => (gs_0 (fun e9 => h9 (by rw [e9]; exact hzk))).tr (lnk_gs (fun e9 => h9 (by rw [e9]; exact hzk)))
                            have hL : gL (L ++ [q_6] ++ [nm1] ++ [q_179] ++ [nm2] ++ [q_212]) (lnk (g0 G3 q_212 4) q_212 q_6 q_179 (some x5)) := hL
                            generalize lnk (g0 G3 q_212 4) q_212 q_6 q_179 (some x5) = G6 at hP hD ik hfr hL
                            have frek : frh G q_212 := frh.fr (frh0 hzk) (LFs_of fo (fun b => b = lk ∨ b = li))
                            have fs : LFs G G6 (fun b => b = lk ∨ b = li) := LFs.tr (LFs_of fo (fun b => b = lk ∨ b = li)) (LFs_of hfr _)
                            have is1 := is1.keep (hfr q_6 (by rw [is1.1]; decide))
                            have in1 := in1.keep (hfr nm1 (by rw [in1.1]; decide))
                            have is2 := is2.keep (hfr q_179 (by rw [is2.1]; decide))
                            have in2 := in2.keep (hfr nm2 (by rw [in2.1]; decide))
                            have l_lp := LSx_old l_lp hfr
                            have l_li := LSx_old l_li hfr
                            have l_lk := LSx_old l_lk hfr
                            have g_c := fs.gs (by rw [hc]; decide) (by rw [hc]; decide) (nSc)
                            have g_ck := g_c.1.trans hc
                            have g_p := fs.gs (by rw [hp0]; decide) (by rw [hp0]; decide) (nSp)
                            have g_pk := g_p.1.trans hp0
                            have fo := fs
                            refine wd_i (cx := []) (wr := [(qn, .inl (cI, 1001, .inl (nF nn))), (qk, .inl (cI, 1001, .inl fk)), (qf, .inr (2, [v0, v1])), (qp, .inr (3, [.ref qc, .ref qt, .ref qf, .int (nI ((b0 + 1) + 1))])), (qt, .inr (1, [w0, w1, .ref qk, .ref ql, .ref qn, .ref qh, .ref qe])), (ql, .inl (cI, 1001, .inl (nF pp))), (qh, .inl (cL, 1001, .inr (.inl fh))), (qe, .inl (cL, 1001, .inr (.inl fl)))]) (pl := va_pl (L ++ [q_6] ++ [nm1] ++ [q_179] ++ [nm2] ++ [q_212]) (gE cO G6)) (va_runV (As := [.ref q_212]) (rest := []) ⟨hx, hb, hml, hown, hts⟩ (p_List_add l dC dI cB cI cL cZ cC cO (G := G6) lk q_212 zs t0 _ hL l_lk (by rw [ik.1]; decide) (by omega)) (cwV 1 hts (good_V k_551 k_255 k_256 k_7 k_257) rfl rfl rfl (by decide +kernel) ⟨Nat.le_of_ble_eq_true rfl, Nat.le_of_ble_eq_true rfl⟩) (wd_preV (ci := 4) (r := (R_List, F_List, 3)) hK hP hD hS hA hF hE [] (by decide) rfl rfl (pq_at (gL_m hL l_lk.k.1 (by decide)) (gE_7 (G := G6) l_lk.k.1))) rfl rfl hl.1 rfl (lv_room (Nat.le_of_ble_eq_true rfl)) d_Parser_parseLink_188 ⟨Nat.le_of_ble_eq_true rfl, Nat.le_of_ble_eq_true rfl⟩) hP hD hS hA [] [0, 1, 2, 3, 4, 5, 6, 7] rfl rfl (by decide) (by decide) (fun r_242 u7 H locs w_241 hP hD hS => ?_)
                            have hP : va_P (dC, dI) cl ([(qn, .inl (cI, 1001, .inl (nF nn))), (qk, .inl (cI, 1001, .inl fk)), (qf, .inr (2, [v0, v1])), (qp, .inr (3, [.ref qc, .ref qt, .ref qf, .int (nI ((b0 + 1) + 1))])), (qt, .inr (1, [w0, w1, .ref qk, .ref ql, .ref qn, .ref qh, .ref qe])), (ql, .inl (cI, 1001, .inl (nF pp))), (qh, .inl (cL, 1001, .inr (.inl fh))), (qe, .inl (cL, 1001, .inr (.inl fl)))] ++ va_pl u7.1 (gE cO u7.2)) H := hP
                            have hD : va_D A ([(qn, .inl (cI, 1001, .inl (nF nn))), (qk, .inl (cI, 1001, .inl fk)), (qf, .inr (2, [v0, v1])), (qp, .inr (3, [.ref qc, .ref qt, .ref qf, .int (nI ((b0 + 1) + 1))])), (qt, .inr (1, [w0, w1, .ref qk, .ref ql, .ref qn, .ref qh, .ref qe])), (ql, .inl (cI, 1001, .inl (nF pp))), (qh, .inl (cL, 1001, .inr (.inl fh))), (qe, .inl (cL, 1001, .inr (.inl fl)))] ++ va_pl u7.1 (gE cO u7.2)) := hD
                            obtain ⟨r_242e, hu7⟩ := w_241
                            subst r_242e
                            have hL := hu7.2.1
                            have is1 := is1.keep (hu7.2.2.kd2 l_lk.k.1 (by rw [is1.1]; decide))
                            have in1 := in1.keep (hu7.2.2.kd2 l_lk.k.1 (by rw [in1.1]; decide))
                            have is2 := is2.keep (hu7.2.2.kd2 l_lk.k.1 (by rw [is2.1]; decide))
                            have in2 := in2.keep (hu7.2.2.kd2 l_lk.k.1 (by rw [in2.1]; decide))
                            have ik := ik.keep (hu7.2.2.kd2 l_lk.k.1 (by rw [ik.1]; decide))
                            have fq7 : LFs G6 u7.2 (fun b => b = lk ∨ b = li) := (LFs_LF hu7.2.2 l_lk.k.1 hu7.1.k.1).mono (fun _ q9 => Or.inl q9)
                            have l_li := LSx_fs l_li (LFs_LF hu7.2.2 l_lk.k.1 hu7.1.k.1) (fun b q9 e9 => by have q8 : b = lk := e9; rw [q8, l_lk.k.1] at q9; omega) (Ne.symm hne)
                            have fs := fs.tr fq7
                            have l_lk := hu7.1
                            generalize u7.2 = G7 at hP hD hL is1 in1 is2 in2 ik l_li l_lk fs
                            have fo := fs
                            refine lv_pop hx hb d_Parser_parseLink_191 rfl ?_
                            refine lv_aload_n hx hb d_Parser_parseLink_192 rfl (lv_at hl 3 rfl) ?_
                            refine lv_aload hx hb d_Parser_parseLink_193 (lv_at hl 1 rfl) ?_
                            refine wd_i (cx := [(qp, .inr (3, [.ref qc, .ref qt, .ref qf, .int (nI ((b0 + 1) + 1))])), (qt, .inr (1, [w0, w1, .ref qk, .ref ql, .ref qn, .ref qh, .ref qe])), (qk, .inl (cI, 1001, .inl fk)), (ql, .inl (cI, 1001, .inl (nF pp))), (qn, .inl (cI, 1001, .inl (nF nn))), (qh, .inl (cL, 1001, .inr (.inl fh))), (qe, .inl (cL, 1001, .inr (.inl fl))), (qf, .inr (2, [v0, v1]))]) (wr := []) (pl := va_pl u7.1 (gE cO G7)) (va_runV (As := [.ref q_179]) (rest := []) ⟨hx, hb, hml, hown, hts⟩ (p_Parser_parseRange l dC dI cB cI cL cZ cC cO qp qc qt qf qk ql qn qh qe fk pp nn fh fl (G := G7) q_179 ((b0 + 1) + 1) v0 v1 t0 _ hL (by omega) is2.1) (cwV 1 hts (good_V k_638 k_640 s_Parser_parseRange k_4 k_641) rfl rfl rfl (by decide +kernel) ⟨Nat.le_of_ble_eq_true rfl, Nat.le_of_ble_eq_true rfl⟩) (wd_preV (ci := 3) (r := (R_Parser, F_Parser, 4)) hK hP hD hS hA hF hE [3, 4, 1, 5, 0, 6, 7, 2] (by decide) rfl rfl ⟨3, rfl⟩) rfl rfl hl.1 rfl (lv_room (Nat.le_of_ble_eq_true rfl)) d_Parser_parseLink_195 ⟨Nat.le_of_ble_eq_true rfl, Nat.le_of_ble_eq_true rfl⟩) hP hD hS hA [3, 4, 1, 5, 0, 6, 7, 2] [] rfl rfl (by decide) (by decide) (fun r_244 u9 H locs w_243 hP hD hS => ?_)
                            have hP : va_P (dC, dI) cl ([(qp, .inr (3, [.ref qc, .ref qt, .ref qf, .int (nI u9.1.1)])), (qt, .inr (1, [w0, w1, .ref qk, .ref ql, .ref qn, .ref qh, .ref qe])), (qk, .inl (cI, 1001, .inl fk)), (ql, .inl (cI, 1001, .inl (nF pp))), (qn, .inl (cI, 1001, .inl (nF nn))), (qh, .inl (cL, 1001, .inr (.inl fh))), (qe, .inl (cL, 1001, .inr (.inl fl))), (qf, .inr (2, [u9.1.2.1, u9.1.2.2]))] ++ va_pl u7.1 (gE cO u9.2)) H := hP
                            have hD : va_D A ([(qp, .inr (3, [.ref qc, .ref qt, .ref qf, .int (nI u9.1.1)])), (qt, .inr (1, [w0, w1, .ref qk, .ref ql, .ref qn, .ref qh, .ref qe])), (qk, .inl (cI, 1001, .inl fk)), (ql, .inl (cI, 1001, .inl (nF pp))), (qn, .inl (cI, 1001, .inl (nF nn))), (qh, .inl (cL, 1001, .inr (.inl fh))), (qe, .inl (cL, 1001, .inr (.inl fl))), (qf, .inr (2, [u9.1.2.1, u9.1.2.2]))] ++ va_pl u7.1 (gE cO u9.2)) := hD
                            obtain ⟨r_244e, u9e⟩ := w_243
                            subst r_244e
                            subst u9e
                            have hL : gL (u7.1) (prg fk pp nn q_179 ((b0 + 1) + 1) v0 v1 G7).2.2 := fun b h9 => hL b (by rw [prg_fr.1] at h9; exact h9)
                            rw [prg_c.2] at hP hD
                            have hfr : ∀ b, b ≠ q_179 → gs G7 (prg fk pp nn q_179 ((b0 + 1) + 1) v0 v1 G7).2.2 b := prg_fr.2.1
                            have fz2 : LFs G (prg fk pp nn q_179 ((b0 + 1) + 1) v0 v1 G7).2.2 (fun b => b = lk ∨ b = li) := by
                              refine ⟨fun b h9 h8 => by rw [prg_fr.1]; exact fs.1 b h9 h8, fun b h9 h8 h7 => (fs.2 b h9 h8 h7).tr (hfr b (fun e9 => ?_))⟩
                              have q9 := (fs.2 b h9 h8 h7).1
                              rw [e9, is2.1] at q9
                              exact fre2s ⟨by omega, by omega⟩
                            have is1 := is1.keep (hfr q_6 hs12)
                            have in1 := in1.keep (hfr nm1 (fun e9 => by have q9 := in1.1; rw [e9, is2.1] at q9; cases q9))
                            have in2 := in2.keep (hfr nm2 (fun e9 => by have q9 := in2.1; rw [e9, is2.1] at q9; cases q9))
                            have ik := ik.keep (hfr q_212 (fun e9 => by have q9 := ik.1; rw [e9, is2.1] at q9; cases q9))
                            have l_lkk := l_lk.k.1
                            have l_lk := LSx_of (G' := (prg fk pp nn q_179 ((b0 + 1) + 1) v0 v1 G7).2.2) l_lk (fun b q9 => hfr b (fun e9 => by rcases q9 with q8 | q8; (rw [← q8, e9, is2.1] at l_lkk; cases l_lkk); (have q7 := q8.1; rw [e9, is2.1] at q7; omega))) (fun x _ => by rw [prg_fr.1])
                            have l_lik := l_li.k.1
                            have l_li := LSx_of (G' := (prg fk pp nn q_179 ((b0 + 1) + 1) v0 v1 G7).2.2) l_li (fun b q9 => hfr b (fun e9 => by rcases q9 with q8 | q8; (rw [← q8, e9, is2.1] at l_lik; cases l_lik); (have q7 := q8.1; rw [e9, is2.1] at q7; omega))) (fun x _ => by rw [prg_fr.1])
                            by_cases hr2 : (prc fk pp (b0 + 1 + 1) v0 v1).1 = true
                            · have hb3 := prc_t hr2
                              rw [hb3.1] at hP hD
                              have is2 := prg_fr.2.2 _ _ is2 (show (prg fk pp nn q_179 ((b0 + 1) + 1) v0 v1 G7).1 = true by rw [prg_c.1]; exact hr2)
                              have hP : va_P (dC, dI) cl ([(qp, .inr (3, [.ref qc, .ref qt, .ref qf, .int (nI ((prc fk pp (b0 + 1 + 1) v0 v1).2.1))])), (qt, .inr (1, [w0, w1, .ref qk, .ref ql, .ref qn, .ref qh, .ref qe])), (qk, .inl (cI, 1001, .inl fk)), (ql, .inl (cI, 1001, .inl (nF pp))), (qn, .inl (cI, 1001, .inl (nF nn))), (qh, .inl (cL, 1001, .inr (.inl fh))), (qe, .inl (cL, 1001, .inr (.inl fl))), (qf, .inr (2, [v0, v1]))] ++ va_pl u7.1 (gE cO ((prg fk pp nn q_179 ((b0 + 1) + 1) v0 v1 G7).2.2))) H := hP
                              have hD : va_D A ([(qp, .inr (3, [.ref qc, .ref qt, .ref qf, .int (nI ((prc fk pp (b0 + 1 + 1) v0 v1).2.1))])), (qt, .inr (1, [w0, w1, .ref qk, .ref ql, .ref qn, .ref qh, .ref qe])), (qk, .inl (cI, 1001, .inl fk)), (ql, .inl (cI, 1001, .inl (nF pp))), (qn, .inl (cI, 1001, .inl (nF nn))), (qh, .inl (cL, 1001, .inr (.inl fh))), (qe, .inl (cL, 1001, .inr (.inl fl))), (qf, .inr (2, [v0, v1]))] ++ va_pl u7.1 (gE cO ((prg fk pp nn q_179 ((b0 + 1) + 1) v0 v1 G7).2.2))) := hD
                              have hX : (plk fk pp (((xs.find? (ftk G (fh (b0 + 1)) (fl (b0 + 1))))).isSome || (((ys.find? (ftk G (fh (b0 + 1)) (fl (b0 + 1))))).isSome || decide (ys.length < 30))) a v0 v1) = (true, ((prc fk pp (b0 + 1 + 1) v0 v1).2.1, v0, v1)) := by unfold plk; rw [if_pos tk_1, if_pos hr1, hbe, if_pos tk_33, if_neg (show ¬ (fk (b0 + 1) = nI 10 ∨ fk (b0 + 1) = nI 11) from fun q9 => by rcases q9 with q9 | q9; exact se_40 q9; exact se_108 q9), if_pos tk_174, if_pos (show (((xs.find? (ftk G (fh (b0 + 1)) (fl (b0 + 1))))).isSome || (((ys.find? (ftk G (fh (b0 + 1)) (fl (b0 + 1))))).isSome || decide (ys.length < 30))) = true by rcases hx5 with q9 | q9; (rw [q9]; rfl); (rw [q9.1, q9.2]; rfl))]; exact Prod.ext hr2 hb3.1
                              refine W.widen (k := 8) (n := 1230) (by omega) (by omega) ?_
                              exact wr_z (x := (prg fk pp nn q_179 ((b0 + 1) + 1) v0 v1 G7).1) hx hb hr hlocks (((prc fk pp (b0 + 1 + 1) v0 v1).2.1, v0, v1), u7.1, (prg fk pp nn q_179 ((b0 + 1) + 1) v0 v1 G7).2.2) ⟨by rw [hX, prg_c.1, hr2], by rw [hX], ⟨hL, fz2⟩, fun _ => ⟨q_212, q_6, nm1, q_179, nm2, (some x5), ⟨frek, fre1s, fre1n, fre2s, fre2n, hs12, hn12⟩, ik, is1, in1, in2, l_lk, Or.inr ⟨fun q9 => by rcases q9 with q9 | q9; exact se_40 q9; exact se_108 q9, is2, Or.inl ⟨x5, hx5, rfl, l_li⟩⟩⟩⟩ hK hP hD hS d_Parser_parseLink_198
                            · have hr2 : (prc fk pp (b0 + 1 + 1) v0 v1).1 = false := by simpa using hr2
                              have hP : va_P (dC, dI) cl ([(qp, .inr (3, [.ref qc, .ref qt, .ref qf, .int (nI ((prc fk pp (b0 + 1 + 1) v0 v1).2.1))])), (qt, .inr (1, [w0, w1, .ref qk, .ref ql, .ref qn, .ref qh, .ref qe])), (qk, .inl (cI, 1001, .inl fk)), (ql, .inl (cI, 1001, .inl (nF pp))), (qn, .inl (cI, 1001, .inl (nF nn))), (qh, .inl (cL, 1001, .inr (.inl fh))), (qe, .inl (cL, 1001, .inr (.inl fl))), (qf, .inr (2, [(prc fk pp (b0 + 1 + 1) v0 v1).2.2.1, (prc fk pp (b0 + 1 + 1) v0 v1).2.2.2]))] ++ va_pl u7.1 (gE cO ((prg fk pp nn q_179 ((b0 + 1) + 1) v0 v1 G7).2.2))) H := hP
                              have hD : va_D A ([(qp, .inr (3, [.ref qc, .ref qt, .ref qf, .int (nI ((prc fk pp (b0 + 1 + 1) v0 v1).2.1))])), (qt, .inr (1, [w0, w1, .ref qk, .ref ql, .ref qn, .ref qh, .ref qe])), (qk, .inl (cI, 1001, .inl fk)), (ql, .inl (cI, 1001, .inl (nF pp))), (qn, .inl (cI, 1001, .inl (nF nn))), (qh, .inl (cL, 1001, .inr (.inl fh))), (qe, .inl (cL, 1001, .inr (.inl fl))), (qf, .inr (2, [(prc fk pp (b0 + 1 + 1) v0 v1).2.2.1, (prc fk pp (b0 + 1 + 1) v0 v1).2.2.2]))] ++ va_pl u7.1 (gE cO ((prg fk pp nn q_179 ((b0 + 1) + 1) v0 v1 G7).2.2))) := hD
                              have hX : (plk fk pp (((xs.find? (ftk G (fh (b0 + 1)) (fl (b0 + 1))))).isSome || (((ys.find? (ftk G (fh (b0 + 1)) (fl (b0 + 1))))).isSome || decide (ys.length < 30))) a v0 v1) = (false, ((prc fk pp (b0 + 1 + 1) v0 v1).2.1, (prc fk pp (b0 + 1 + 1) v0 v1).2.2.1, (prc fk pp (b0 + 1 + 1) v0 v1).2.2.2)) := by unfold plk; rw [if_pos tk_1, if_pos hr1, hbe, if_pos tk_33, if_neg (show ¬ (fk (b0 + 1) = nI 10 ∨ fk (b0 + 1) = nI 11) from fun q9 => by rcases q9 with q9 | q9; exact se_40 q9; exact se_108 q9), if_pos tk_174, if_pos (show (((xs.find? (ftk G (fh (b0 + 1)) (fl (b0 + 1))))).isSome || (((ys.find? (ftk G (fh (b0 + 1)) (fl (b0 + 1))))).isSome || decide (ys.length < 30))) = true by rcases hx5 with q9 | q9; (rw [q9]; rfl); (rw [q9.1, q9.2]; rfl))]; exact Prod.ext hr2 rfl
                              refine W.widen (k := 8) (n := 1230) (by omega) (by omega) ?_
                              exact wr_z (x := (prg fk pp nn q_179 ((b0 + 1) + 1) v0 v1 G7).1) hx hb hr hlocks (((prc fk pp (b0 + 1 + 1) v0 v1).2.1, (prc fk pp (b0 + 1 + 1) v0 v1).2.2.1, (prc fk pp (b0 + 1 + 1) v0 v1).2.2.2), u7.1, (prg fk pp nn q_179 ((b0 + 1) + 1) v0 v1 G7).2.2) ⟨by rw [hX, prg_c.1, hr2], by rw [hX], ⟨hL, fz2⟩, fun q9 => by rw [hX] at q9; exact Bool.noConfusion q9⟩ hK hP hD hS d_Parser_parseLink_198
                          · subst r_211e
                            subst u5e
                            have hP : va_P (dC, dI) cl ([(qn, .inl (cI, 1001, .inl (nF nn))), (qk, .inl (cI, 1001, .inl fk)), (qf, .inr (2, [v0, v1])), (qp, .inr (3, [.ref qc, .ref qt, .ref qf, .int (nI ((b0 + 1) + 1))])), (qt, .inr (1, [w0, w1, .ref qk, .ref ql, .ref qn, .ref qh, .ref qe])), (ql, .inl (cI, 1001, .inl (nF pp))), (qh, .inl (cL, 1001, .inr (.inl fh))), (qe, .inl (cL, 1001, .inr (.inl fl)))] ++ va_pl (L ++ [q_6] ++ [nm1] ++ [q_179] ++ [nm2]) (gE cO G3)) H := hP
                            have hD : va_D A ([(qn, .inl (cI, 1001, .inl (nF nn))), (qk, .inl (cI, 1001, .inl fk)), (qf, .inr (2, [v0, v1])), (qp, .inr (3, [.ref qc, .ref qt, .ref qf, .int (nI ((b0 + 1) + 1))])), (qt, .inr (1, [w0, w1, .ref qk, .ref ql, .ref qn, .ref qh, .ref qe])), (ql, .inl (cI, 1001, .inl (nF pp))), (qh, .inl (cL, 1001, .inr (.inl fh))), (qe, .inl (cL, 1001, .inr (.inl fl)))] ++ va_pl (L ++ [q_6] ++ [nm1] ++ [q_179] ++ [nm2]) (gE cO G3)) := hD
                            refine lv_astoreN (lv' := [(5, .null), (4, .ref q_179), (3, .ref q_6), (0, .ref qp), (1, .ref c0), (2, .ref p0)]) hx hb d_Parser_parseLink_148 hl (by decide) rfl (fun ls hl => ?_)
                            refine lv_aloadN hx hb d_Parser_parseLink_150 (lv_at hl 0 rfl) ?_
                            refine lv_ifnonnullN hx hb d_Parser_parseLink_152 ?_
                            refine lv_aload_n hx hb d_Parser_parseLink_155 rfl (lv_at hl 3 rfl) ?_
                            refine va_get (D := (dC, dI)) (ci := 3) (v := .ref qf) (C := R_Parser) (T := F_Parser) (N := 4) hx hb hts i_Parser hown hK hP 3 rfl rfl 2 (by decide) (hts _ k_118) (fun _ h9 => h9) rfl d_Parser_parseLink_156 ?_
                            refine lv_iconst (v := nI 2) hx hb d_Parser_parseLink_159 (by decide) ?_
                            refine lv_aload hx hb d_Parser_parseLink_160 (lv_at hl 1 rfl) ?_
                            refine pq_get (D := (dC, dI)) (ci := 11) (v := .ref nm2) (C := R_Side) (T := F_Side) (N := 5) hx hb hts i_Side hown hK hP (gL_m hL is2.1 (by decide)) (gE_3 (G := G3) is2.1) rfl 0 (by decide) (hts _ k_615) (fun _ h9 => h9) (congrArg (fun z9 => some (va_rf z9)) is2.2.1) d_Parser_parseLink_162 ?_
                            refine pq_get (D := (dC, dI)) (ci := 7) (v := .int (oI (some (pp (b0 + 1))))) (C := R_Name) (T := F_Name) (N := 3) hx hb hts i_Name hown hK hP (gL_m hL in2.1 (by decide)) (gE_1 (G := G3) in2.1) rfl 2 (by decide) (hts _ k_151) (fun _ h9 => h9) (congrArg (fun z9 => some (Value.int (oI z9))) in2.2.2.2) d_Parser_parseLink_165 ?_
                            refine we_i (cx := [(qf, .inr (2, [v0, v1]))]) (wr := [(qn, .inl (cI, 1001, .inl (nF nn))), (qk, .inl (cI, 1001, .inl fk)), (qp, .inr (3, [.ref qc, .ref qt, .ref qf, .int (nI ((b0 + 1) + 1))])), (qt, .inr (1, [w0, w1, .ref qk, .ref ql, .ref qn, .ref qh, .ref qe])), (ql, .inl (cI, 1001, .inl (nF pp))), (qh, .inl (cL, 1001, .inr (.inl fh))), (qe, .inl (cL, 1001, .inr (.inl fl)))]) (pl := va_pl (L ++ [q_6] ++ [nm1] ++ [q_179] ++ [nm2]) (gE cO G3)) (va_runV (As := [.int (nI 2), .int (oI (some (pp (b0 + 1))))]) (rest := []) ⟨hx, hb, hml, hown, hts⟩ (c_Fault_note l dC dI cB cI cL cZ cC cO qf (nI 2) (oI (some (pp (b0 + 1)))) _ ) (cwV 2 hts (good_V k_533 k_534 k_535 k_3 k_536) rfl rfl rfl (by decide +kernel) ⟨Nat.le_of_ble_eq_true rfl, Nat.le_of_ble_eq_true rfl⟩) (wc_preV (k0 := 2) (ci := 2) (r := (R_Fault, F_Fault, 2)) hK hP hD hS hA hF [2] (by decide) rfl rfl rfl) rfl rfl hl.1 rfl (lv_room (Nat.le_of_ble_eq_true rfl)) d_Parser_parseLink_168 ⟨Nat.le_of_ble_eq_true rfl, Nat.le_of_ble_eq_true rfl⟩) hP hD hS hA [2] [0, 1, 3, 4, 5, 6, 7] rfl rfl (by decide) (by decide) (fun r_246 _ H locs w_245 hP hD hS => ?_)
                            have hP : va_P (dC, dI) cl ([(qn, .inl (cI, 1001, .inl (nF nn))), (qk, .inl (cI, 1001, .inl fk)), (qp, .inr (3, [.ref qc, .ref qt, .ref qf, .int (nI ((b0 + 1) + 1))])), (qt, .inr (1, [w0, w1, .ref qk, .ref ql, .ref qn, .ref qh, .ref qe])), (ql, .inl (cI, 1001, .inl (nF pp))), (qh, .inl (cL, 1001, .inr (.inl fh))), (qe, .inl (cL, 1001, .inr (.inl fl))), (qf, .inr (2, [.int (nI 2), .int (nI (pp (b0 + 1)))]))] ++ va_pl (L ++ [q_6] ++ [nm1] ++ [q_179] ++ [nm2]) (gE cO G3)) H := hP
                            have hD : va_D A ([(qn, .inl (cI, 1001, .inl (nF nn))), (qk, .inl (cI, 1001, .inl fk)), (qp, .inr (3, [.ref qc, .ref qt, .ref qf, .int (nI ((b0 + 1) + 1))])), (qt, .inr (1, [w0, w1, .ref qk, .ref ql, .ref qn, .ref qh, .ref qe])), (ql, .inl (cI, 1001, .inl (nF pp))), (qh, .inl (cL, 1001, .inr (.inl fh))), (qe, .inl (cL, 1001, .inr (.inl fl))), (qf, .inr (2, [.int (nI 2), .int (nI (pp (b0 + 1)))]))] ++ va_pl (L ++ [q_6] ++ [nm1] ++ [q_179] ++ [nm2]) (gE cO G3)) := hD
                            subst w_245
                            have hX : (plk fk pp (((xs.find? (ftk G (fh (b0 + 1)) (fl (b0 + 1))))).isSome || (((ys.find? (ftk G (fh (b0 + 1)) (fl (b0 + 1))))).isSome || decide (ys.length < 30))) a v0 v1) = (false, ((b0 + 1) + 1, .int (nI 2), .int (nI (pp (b0 + 1))))) := by unfold plk; (rw [if_pos tk_1, if_pos hr1, hbe, if_pos tk_33, if_neg (show ¬ (fk (b0 + 1) = nI 10 ∨ fk (b0 + 1) = nI 11) from fun q9 => by rcases q9 with q9 | q9; exact se_40 q9; exact se_108 q9), if_pos tk_174, if_neg (show ¬ (((xs.find? (ftk G (fh (b0 + 1)) (fl (b0 + 1))))).isSome || (((ys.find? (ftk G (fh (b0 + 1)) (fl (b0 + 1))))).isSome || decide (ys.length < 30))) = true by rw [hf1, hf2]; simp; omega)]) <;> rfl
                            refine W.widen (k := 8) (n := 1230) (by omega) (by omega) ?_
                            exact wr_z (x := false) hx hb hr hlocks (((b0 + 1) + 1, .int (nI 2), .int (nI (pp (b0 + 1)))), L ++ [q_6] ++ [nm1] ++ [q_179] ++ [nm2], G3) ⟨by rw [hX], by rw [hX], ⟨hL, (LFs_of fo (fun b => b = lk ∨ b = li))⟩, fun q9 => by rw [hX] at q9; exact Bool.noConfusion q9⟩ hK (hP.part [2, 3, 1, 4, 0, 5, 6, 7] rfl) (hD.part [2, 3, 1, 4, 0, 5, 6, 7] (by decide) rfl) hS d_Parser_parseLink_171
                          · subst r_211e
                            have hz5 : G3.1 w5 = 0 := g0_n hL nw5
                            have hL := hg5
                            have frew : frh G w5 := frh.fr (frh0 hz5) (LFs_of fo (fun _ => False))
                            have is1 := is1.keep (hlf5.kd2 l_li.k.1 (by rw [is1.1]; decide))
                            have in1 := in1.keep (hlf5.kd2 l_li.k.1 (by rw [in1.1]; decide))
                            have is2 := is2.keep (hlf5.kd2 l_li.k.1 (by rw [is2.1]; decide))
                            have in2 := in2.keep (hlf5.kd2 l_li.k.1 (by rw [in2.1]; decide))
                            have fq5 := LFs_LF hlf5 l_li.k.1 hl5.k.1
                            have fs : LFs G u5.2 (fun b => b = lk ∨ b = li) := (LFs_of fo _).tr (fq5.mono (fun _ q9 => Or.inr q9))
                            have l_lk := LSx_fs l_lk fq5 (fun b q9 e9 => by have q8 : b = li := e9; rw [q8, l_li.k.1] at q9; omega) hne
                            have l_li := hl5
                            have g_p := fs.gs (by rw [hp0]; decide) (by rw [hp0]; decide) (nSp)
                            have g_pk := g_p.1.trans hp0
                            generalize u5.2 = G5 at hP hD hL is1 in1 is2 in2 iw l_lk l_li fs g_p g_pk
                            have fo := fs
                            have hP : va_P (dC, dI) cl ([(qn, .inl (cI, 1001, .inl (nF nn))), (qk, .inl (cI, 1001, .inl fk)), (qf, .inr (2, [v0, v1])), (qp, .inr (3, [.ref qc, .ref qt, .ref qf, .int (nI ((b0 + 1) + 1))])), (qt, .inr (1, [w0, w1, .ref qk, .ref ql, .ref qn, .ref qh, .ref qe])), (ql, .inl (cI, 1001, .inl (nF pp))), (qh, .inl (cL, 1001, .inr (.inl fh))), (qe, .inl (cL, 1001, .inr (.inl fl)))] ++ va_pl u5.1 (gE cO G5)) H := hP
                            have hD : va_D A ([(qn, .inl (cI, 1001, .inl (nF nn))), (qk, .inl (cI, 1001, .inl fk)), (qf, .inr (2, [v0, v1])), (qp, .inr (3, [.ref qc, .ref qt, .ref qf, .int (nI ((b0 + 1) + 1))])), (qt, .inr (1, [w0, w1, .ref qk, .ref ql, .ref qn, .ref qh, .ref qe])), (ql, .inl (cI, 1001, .inl (nF pp))), (qh, .inl (cL, 1001, .inr (.inl fh))), (qe, .inl (cL, 1001, .inr (.inl fl)))] ++ va_pl u5.1 (gE cO G5)) := hD
                            refine lv_astore (lv' := [(5, .ref w5), (4, .ref q_179), (3, .ref q_6), (0, .ref qp), (1, .ref c0), (2, .ref p0)]) hx hb d_Parser_parseLink_148 hl (by decide) rfl (fun ls hl => ?_)
                            refine lv_aload hx hb d_Parser_parseLink_150 (lv_at hl 0 rfl) ?_
                            refine lv_ifnonnull (tgt := 172) hx hb d_Parser_parseLink_152 (by decide) ?_
                            refine lv_aload_n hx hb d_Parser_parseLink_172 rfl (lv_at hl 5 rfl) ?_
                            refine pq_get (D := (dC, dI)) (ci := 10) (v := .ref lk) (C := R_Part) (T := F_Part) (N := 3) hx hb hts i_Part hown hK hP (gL_m hL g_pk (by decide)) (gE_5 (G := G5) g_pk) rfl 1 (by decide) (hts _ k_588) (fun _ h9 => h9) (congrArg (fun z9 => some (va_rf z9)) (show _ = some lk by rw [g_p.2.2.2.2.2]; exact hlk)) d_Parser_parseLink_173 ?_
                            refine pq_new (ci := 12) (fs := [.null, .null, .null, .null]) (C := R_Link) (T := F_Link) (N := 4) (fn := fun q9 => gE cO (g0 G5 q9 4)) hx hb hts i_Link t_Link t_Link_ok hown (hts _ k_646) (hts _ k_647) (hts _ k_22) hK hP hD hS hA rfl (fun j hj => by rcases (show j = 0 ∨ j = 1 ∨ j = 2 ∨ j = 3 by omega) with rfl | rfl | rfl | rfl <;> rfl) (Nat.le_of_ble_eq_true rfl) (Nat.le_of_ble_eq_true rfl) (fun q9 => nE_4 (G := G5) q9) d_Parser_parseLink_176 (fun q_247 H nq_247 hP hD hS => ?_)
                            have kf_248 : (g0 G5 q_247 4).1 q_6 = 3 := (g0_k hL is1.1 (by decide) nq_247)
                            have ne_249 : q_6 ≠ q_247 := g0_ne hL is1.1 (by decide) nq_247
                            have kf_250 : (g0 G5 q_247 4).1 nm1 = 1 := (g0_k hL in1.1 (by decide) nq_247)
                            have ne_251 : nm1 ≠ q_247 := g0_ne hL in1.1 (by decide) nq_247
                            have kf_252 : (g0 G5 q_247 4).1 q_179 = 3 := (g0_k hL is2.1 (by decide) nq_247)
                            have ne_253 : q_179 ≠ q_247 := g0_ne hL is2.1 (by decide) nq_247
                            have kf_254 : (g0 G5 q_247 4).1 nm2 = 1 := (g0_k hL in2.1 (by decide) nq_247)
                            have ne_255 : nm2 ≠ q_247 := g0_ne hL in2.1 (by decide) nq_247
                            have kf_256 : (g0 G5 q_247 4).1 w5 = 2 := (g0_k hL iw.1 (by decide) nq_247)
                            have ne_257 : w5 ≠ q_247 := g0_ne hL iw.1 (by decide) nq_247
                            have kf_258 : (g0 G5 q_247 4).1 p0 = 5 := (g0_k hL g_pk (by decide) nq_247)
                            have ne_259 : p0 ≠ q_247 := g0_ne hL g_pk (by decide) nq_247
                            have kf_260 : (g0 G5 q_247 4).1 lk = 7 := (g0_k hL l_lk.k.1 (by decide) nq_247)
                            have ne_261 : lk ≠ q_247 := g0_ne hL l_lk.k.1 (by decide) nq_247
                            have kf_262 : (g0 G5 q_247 4).1 li = 7 := (g0_k hL l_li.k.1 (by decide) nq_247)
                            have ne_263 : li ≠ q_247 := g0_ne hL l_li.k.1 (by decide) nq_247
                            have fa_264 : (g0 G5 q_247 4).2.2.2.2.2 p0 1 = some lk := (congrFun ((gs_0 ne_259).2.2.2.2.2) 1).trans (show _ = some lk by rw [g_p.2.2.2.2.2]; exact hlk)
                            have fa_265 : (g0 G5 q_247 4).2.2.2.2.2 q_6 0 = some nm1 := (congrFun ((gs_0 ne_249).2.2.2.2.2) 0).trans is1.2.1
                            have fa_266 : (g0 G5 q_247 4).2.2.2.2.2 q_179 0 = some nm2 := (congrFun ((gs_0 ne_253).2.2.2.2.2) 0).trans is2.2.1
                            have fa_267 : (g0 G5 q_247 4).2.2.1 nm2 2 = some (pp (b0 + 1)) := (congrFun ((gs_0 ne_255).2.2.1) 2).trans in2.2.2.2
                            have hL0 := hL
                            have hz9 : G5.1 q_247 = 0 := g0_n hL nq_247
                            replace hL := gL_new (a := q_247) (n := 4) hL
                            have hP : va_P (dC, dI) cl ([(qn, .inl (cI, 1001, .inl (nF nn))), (qk, .inl (cI, 1001, .inl fk)), (qf, .inr (2, [v0, v1])), (qp, .inr (3, [.ref qc, .ref qt, .ref qf, .int (nI ((b0 + 1) + 1))])), (qt, .inr (1, [w0, w1, .ref qk, .ref ql, .ref qn, .ref qh, .ref qe])), (ql, .inl (cI, 1001, .inl (nF pp))), (qh, .inl (cL, 1001, .inr (.inl fh))), (qe, .inl (cL, 1001, .inr (.inl fl)))] ++ va_pl (u5.1 ++ [q_247]) (gE cO (g0 G5 q_247 4))) H := hP
                            have hD : va_D A ([(qn, .inl (cI, 1001, .inl (nF nn))), (qk, .inl (cI, 1001, .inl fk)), (qf, .inr (2, [v0, v1])), (qp, .inr (3, [.ref qc, .ref qt, .ref qf, .int (nI ((b0 + 1) + 1))])), (qt, .inr (1, [w0, w1, .ref qk, .ref ql, .ref qn, .ref qh, .ref qe])), (ql, .inl (cI, 1001, .inl (nF pp))), (qh, .inl (cL, 1001, .inr (.inl fh))), (qe, .inl (cL, 1001, .inr (.inl fl)))] ++ va_pl (u5.1 ++ [q_247]) (gE cO (g0 G5 q_247 4))) := hD
                            refine lv_dup hx hb d_Parser_parseLink_179 rfl ?_
                            refine lv_aload_n hx hb d_Parser_parseLink_180 rfl (lv_at hl 2 rfl) ?_
                            refine lv_aload hx hb d_Parser_parseLink_181 (lv_at hl 1 rfl) ?_
                            refine lv_aload hx hb d_Parser_parseLink_183 (lv_at hl 0 rfl) ?_
                            have hzk : G5.1 q_247 = 0 := hz9
                            refine wd_v (cx := []) (wr := [(qn, .inl (cI, 1001, .inl (nF nn))), (qk, .inl (cI, 1001, .inl fk)), (qf, .inr (2, [v0, v1])), (qp, .inr (3, [.ref qc, .ref qt, .ref qf, .int (nI ((b0 + 1) + 1))])), (qt, .inr (1, [w0, w1, .ref qk, .ref ql, .ref qn, .ref qh, .ref qe])), (ql, .inl (cI, 1001, .inl (nF pp))), (qh, .inl (cL, 1001, .inr (.inl fh))), (qe, .inl (cL, 1001, .inr (.inl fl)))]) (pl := va_pl (u5.1 ++ [q_247]) (gE cO (g0 G5 q_247 4))) (va_runI (As := [.ref q_6, .ref q_179, .ref w5]) (rest := [.ref q_247, .ref lk]) ⟨hx, hb, hml, hown, hts⟩ (p_Link_initS l dC dI cB cI cL cZ cC cO (G := g0 G5 q_247 4) q_247 q_6 q_179 w5 t0 _ hL (g0_q G5 q_247 4)) (cwI 3 hts (good_c k_650) rfl rfl rfl (hts _ k_22) (hts _ k_648) (hts _ k_649) rfl (by decide +kernel) ⟨Nat.le_of_ble_eq_true rfl, Nat.le_of_ble_eq_true rfl⟩) (wd_preS hK hP hD hS hA hF hE [] (by decide) rfl) rfl rfl hl.1 rfl (lv_room (Nat.le_of_ble_eq_true rfl)) d_Parser_parseLink_185 ⟨Nat.le_of_ble_eq_true rfl, Nat.le_of_ble_eq_true rfl⟩) hP hD hS hA [] [0, 1, 2, 3, 4, 5, 6, 7] rfl rfl (by decide) (by decide) (fun _ H locs w_268 hP hD hS => ?_)
                            have hP : va_P (dC, dI) cl ([(qn, .inl (cI, 1001, .inl (nF nn))), (qk, .inl (cI, 1001, .inl fk)), (qf, .inr (2, [v0, v1])), (qp, .inr (3, [.ref qc, .ref qt, .ref qf, .int (nI ((b0 + 1) + 1))])), (qt, .inr (1, [w0, w1, .ref qk, .ref ql, .ref qn, .ref qh, .ref qe])), (ql, .inl (cI, 1001, .inl (nF pp))), (qh, .inl (cL, 1001, .inr (.inl fh))), (qe, .inl (cL, 1001, .inr (.inl fl)))] ++ va_pl (u5.1 ++ [q_247]) (gE cO (lnk (g0 G5 q_247 4) q_247 q_6 q_179 (some w5)))) H := hP
                            have hD : va_D A ([(qn, .inl (cI, 1001, .inl (nF nn))), (qk, .inl (cI, 1001, .inl fk)), (qf, .inr (2, [v0, v1])), (qp, .inr (3, [.ref qc, .ref qt, .ref qf, .int (nI ((b0 + 1) + 1))])), (qt, .inr (1, [w0, w1, .ref qk, .ref ql, .ref qn, .ref qh, .ref qe])), (ql, .inl (cI, 1001, .inl (nF pp))), (qh, .inl (cL, 1001, .inr (.inl fh))), (qe, .inl (cL, 1001, .inr (.inl fl)))] ++ va_pl (u5.1 ++ [q_247]) (gE cO (lnk (g0 G5 q_247 4) q_247 q_6 q_179 (some w5)))) := hD
                            have ik := isK_of (x := q_6) (y := q_179) (z := (some w5)) (g0_q G5 q_247 4)
                            have hfr : ∀ b, G5.1 b ≠ 0 → gs G5 (lnk (g0 G5 q_247 4) q_247 q_6 q_179 (some w5)) b := fun b h9 => (gs_0 (fun e9 => h9 (by rw [e9]; exact hzk))).tr (lnk_gs (fun e9 => h9 (by rw [e9]; exact hzk)))
                            have hL : gL (u5.1 ++ [q_247]) (lnk (g0 G5 q_247 4) q_247 q_6 q_179 (some w5)) := hL
                            generalize lnk (g0 G5 q_247 4) q_247 q_6 q_179 (some w5) = G6 at hP hD ik hfr hL
                            have frek : frh G q_247 := frh.fr (frh0 hzk) fo
                            have fs : LFs G G6 (fun b => b = lk ∨ b = li) := LFs.tr fo (LFs_of hfr _)
                            have is1 := is1.keep (hfr q_6 (by rw [is1.1]; decide))
                            have in1 := in1.keep (hfr nm1 (by rw [in1.1]; decide))
                            have is2 := is2.keep (hfr q_179 (by rw [is2.1]; decide))
                            have in2 := in2.keep (hfr nm2 (by rw [in2.1]; decide))
                            have iw := iw.keep (hfr w5 (by rw [iw.1]; decide))
                            have l_lk := LSx_old l_lk hfr
                            have l_li := LSx_old l_li hfr
                            have g_p := fs.gs (by rw [hp0]; decide) (by rw [hp0]; decide) (nSp)
                            have g_pk := g_p.1.trans hp0
                            have fo := fs
                            refine wd_i (cx := []) (wr := [(qn, .inl (cI, 1001, .inl (nF nn))), (qk, .inl (cI, 1001, .inl fk)), (qf, .inr (2, [v0, v1])), (qp, .inr (3, [.ref qc, .ref qt, .ref qf, .int (nI ((b0 + 1) + 1))])), (qt, .inr (1, [w0, w1, .ref qk, .ref ql, .ref qn, .ref qh, .ref qe])), (ql, .inl (cI, 1001, .inl (nF pp))), (qh, .inl (cL, 1001, .inr (.inl fh))), (qe, .inl (cL, 1001, .inr (.inl fl)))]) (pl := va_pl (u5.1 ++ [q_247]) (gE cO G6)) (va_runV (As := [.ref q_247]) (rest := []) ⟨hx, hb, hml, hown, hts⟩ (p_List_add l dC dI cB cI cL cZ cC cO (G := G6) lk q_247 zs t0 _ hL l_lk (by rw [ik.1]; decide) (by omega)) (cwV 1 hts (good_V k_551 k_255 k_256 k_7 k_257) rfl rfl rfl (by decide +kernel) ⟨Nat.le_of_ble_eq_true rfl, Nat.le_of_ble_eq_true rfl⟩) (wd_preV (ci := 4) (r := (R_List, F_List, 3)) hK hP hD hS hA hF hE [] (by decide) rfl rfl (pq_at (gL_m hL l_lk.k.1 (by decide)) (gE_7 (G := G6) l_lk.k.1))) rfl rfl hl.1 rfl (lv_room (Nat.le_of_ble_eq_true rfl)) d_Parser_parseLink_188 ⟨Nat.le_of_ble_eq_true rfl, Nat.le_of_ble_eq_true rfl⟩) hP hD hS hA [] [0, 1, 2, 3, 4, 5, 6, 7] rfl rfl (by decide) (by decide) (fun r_271 u7 H locs w_270 hP hD hS => ?_)
                            have hP : va_P (dC, dI) cl ([(qn, .inl (cI, 1001, .inl (nF nn))), (qk, .inl (cI, 1001, .inl fk)), (qf, .inr (2, [v0, v1])), (qp, .inr (3, [.ref qc, .ref qt, .ref qf, .int (nI ((b0 + 1) + 1))])), (qt, .inr (1, [w0, w1, .ref qk, .ref ql, .ref qn, .ref qh, .ref qe])), (ql, .inl (cI, 1001, .inl (nF pp))), (qh, .inl (cL, 1001, .inr (.inl fh))), (qe, .inl (cL, 1001, .inr (.inl fl)))] ++ va_pl u7.1 (gE cO u7.2)) H := hP
                            have hD : va_D A ([(qn, .inl (cI, 1001, .inl (nF nn))), (qk, .inl (cI, 1001, .inl fk)), (qf, .inr (2, [v0, v1])), (qp, .inr (3, [.ref qc, .ref qt, .ref qf, .int (nI ((b0 + 1) + 1))])), (qt, .inr (1, [w0, w1, .ref qk, .ref ql, .ref qn, .ref qh, .ref qe])), (ql, .inl (cI, 1001, .inl (nF pp))), (qh, .inl (cL, 1001, .inr (.inl fh))), (qe, .inl (cL, 1001, .inr (.inl fl)))] ++ va_pl u7.1 (gE cO u7.2)) := hD
                            obtain ⟨r_271e, hu7⟩ := w_270
                            subst r_271e
                            have hL := hu7.2.1
                            have is1 := is1.keep (hu7.2.2.kd2 l_lk.k.1 (by rw [is1.1]; decide))
                            have in1 := in1.keep (hu7.2.2.kd2 l_lk.k.1 (by rw [in1.1]; decide))
                            have is2 := is2.keep (hu7.2.2.kd2 l_lk.k.1 (by rw [is2.1]; decide))
                            have in2 := in2.keep (hu7.2.2.kd2 l_lk.k.1 (by rw [in2.1]; decide))
                            have iw := iw.keep (hu7.2.2.kd2 l_lk.k.1 (by rw [iw.1]; decide))
                            have ik := ik.keep (hu7.2.2.kd2 l_lk.k.1 (by rw [ik.1]; decide))
                            have fq7 : LFs G6 u7.2 (fun b => b = lk ∨ b = li) := (LFs_LF hu7.2.2 l_lk.k.1 hu7.1.k.1).mono (fun _ q9 => Or.inl q9)
                            have l_li := LSx_fs l_li (LFs_LF hu7.2.2 l_lk.k.1 hu7.1.k.1) (fun b q9 e9 => by have q8 : b = lk := e9; rw [q8, l_lk.k.1] at q9; omega) (Ne.symm hne)
                            have fs := fs.tr fq7
                            have l_lk := hu7.1
                            generalize u7.2 = G7 at hP hD hL is1 in1 is2 in2 iw ik l_li l_lk fs
                            have fo := fs
                            refine lv_pop hx hb d_Parser_parseLink_191 rfl ?_
                            refine lv_aload_n hx hb d_Parser_parseLink_192 rfl (lv_at hl 3 rfl) ?_
                            refine lv_aload hx hb d_Parser_parseLink_193 (lv_at hl 1 rfl) ?_
                            refine wd_i (cx := [(qp, .inr (3, [.ref qc, .ref qt, .ref qf, .int (nI ((b0 + 1) + 1))])), (qt, .inr (1, [w0, w1, .ref qk, .ref ql, .ref qn, .ref qh, .ref qe])), (qk, .inl (cI, 1001, .inl fk)), (ql, .inl (cI, 1001, .inl (nF pp))), (qn, .inl (cI, 1001, .inl (nF nn))), (qh, .inl (cL, 1001, .inr (.inl fh))), (qe, .inl (cL, 1001, .inr (.inl fl))), (qf, .inr (2, [v0, v1]))]) (wr := []) (pl := va_pl u7.1 (gE cO G7)) (va_runV (As := [.ref q_179]) (rest := []) ⟨hx, hb, hml, hown, hts⟩ (p_Parser_parseRange l dC dI cB cI cL cZ cC cO qp qc qt qf qk ql qn qh qe fk pp nn fh fl (G := G7) q_179 ((b0 + 1) + 1) v0 v1 t0 _ hL (by omega) is2.1) (cwV 1 hts (good_V k_638 k_640 s_Parser_parseRange k_4 k_641) rfl rfl rfl (by decide +kernel) ⟨Nat.le_of_ble_eq_true rfl, Nat.le_of_ble_eq_true rfl⟩) (wd_preV (ci := 3) (r := (R_Parser, F_Parser, 4)) hK hP hD hS hA hF hE [3, 4, 1, 5, 0, 6, 7, 2] (by decide) rfl rfl ⟨3, rfl⟩) rfl rfl hl.1 rfl (lv_room (Nat.le_of_ble_eq_true rfl)) d_Parser_parseLink_195 ⟨Nat.le_of_ble_eq_true rfl, Nat.le_of_ble_eq_true rfl⟩) hP hD hS hA [3, 4, 1, 5, 0, 6, 7, 2] [] rfl rfl (by decide) (by decide) (fun r_273 u9 H locs w_272 hP hD hS => ?_)
                            have hP : va_P (dC, dI) cl ([(qp, .inr (3, [.ref qc, .ref qt, .ref qf, .int (nI u9.1.1)])), (qt, .inr (1, [w0, w1, .ref qk, .ref ql, .ref qn, .ref qh, .ref qe])), (qk, .inl (cI, 1001, .inl fk)), (ql, .inl (cI, 1001, .inl (nF pp))), (qn, .inl (cI, 1001, .inl (nF nn))), (qh, .inl (cL, 1001, .inr (.inl fh))), (qe, .inl (cL, 1001, .inr (.inl fl))), (qf, .inr (2, [u9.1.2.1, u9.1.2.2]))] ++ va_pl u7.1 (gE cO u9.2)) H := hP
                            have hD : va_D A ([(qp, .inr (3, [.ref qc, .ref qt, .ref qf, .int (nI u9.1.1)])), (qt, .inr (1, [w0, w1, .ref qk, .ref ql, .ref qn, .ref qh, .ref qe])), (qk, .inl (cI, 1001, .inl fk)), (ql, .inl (cI, 1001, .inl (nF pp))), (qn, .inl (cI, 1001, .inl (nF nn))), (qh, .inl (cL, 1001, .inr (.inl fh))), (qe, .inl (cL, 1001, .inr (.inl fl))), (qf, .inr (2, [u9.1.2.1, u9.1.2.2]))] ++ va_pl u7.1 (gE cO u9.2)) := hD
                            obtain ⟨r_273e, u9e⟩ := w_272
                            subst r_273e
                            subst u9e
                            have hL : gL (u7.1) (prg fk pp nn q_179 ((b0 + 1) + 1) v0 v1 G7).2.2 := fun b h9 => hL b (by rw [prg_fr.1] at h9; exact h9)
                            rw [prg_c.2] at hP hD
                            have hfr : ∀ b, b ≠ q_179 → gs G7 (prg fk pp nn q_179 ((b0 + 1) + 1) v0 v1 G7).2.2 b := prg_fr.2.1
                            have fz2 : LFs G (prg fk pp nn q_179 ((b0 + 1) + 1) v0 v1 G7).2.2 (fun b => b = lk ∨ b = li) := by
                              refine ⟨fun b h9 h8 => by rw [prg_fr.1]; exact fs.1 b h9 h8, fun b h9 h8 h7 => (fs.2 b h9 h8 h7).tr (hfr b (fun e9 => ?_))⟩
                              have q9 := (fs.2 b h9 h8 h7).1
                              rw [e9, is2.1] at q9
                              exact fre2s ⟨by omega, by omega⟩
                            have is1 := is1.keep (hfr q_6 hs12)
                            have in1 := in1.keep (hfr nm1 (fun e9 => by have q9 := in1.1; rw [e9, is2.1] at q9; cases q9))
                            have in2 := in2.keep (hfr nm2 (fun e9 => by have q9 := in2.1; rw [e9, is2.1] at q9; cases q9))
                            have iw := iw.keep (hfr w5 (fun e9 => by have q9 := iw.1; rw [e9, is2.1] at q9; cases q9))
                            have ik := ik.keep (hfr q_247 (fun e9 => by have q9 := ik.1; rw [e9, is2.1] at q9; cases q9))
                            have l_lkk := l_lk.k.1
                            have l_lk := LSx_of (G' := (prg fk pp nn q_179 ((b0 + 1) + 1) v0 v1 G7).2.2) l_lk (fun b q9 => hfr b (fun e9 => by rcases q9 with q8 | q8; (rw [← q8, e9, is2.1] at l_lkk; cases l_lkk); (have q7 := q8.1; rw [e9, is2.1] at q7; omega))) (fun x _ => by rw [prg_fr.1])
                            have l_lik := l_li.k.1
                            have l_li := LSx_of (G' := (prg fk pp nn q_179 ((b0 + 1) + 1) v0 v1 G7).2.2) l_li (fun b q9 => hfr b (fun e9 => by rcases q9 with q8 | q8; (rw [← q8, e9, is2.1] at l_lik; cases l_lik); (have q7 := q8.1; rw [e9, is2.1] at q7; omega))) (fun x _ => by rw [prg_fr.1])
                            by_cases hr2 : (prc fk pp (b0 + 1 + 1) v0 v1).1 = true
                            · have hb3 := prc_t hr2
                              rw [hb3.1] at hP hD
                              have is2 := prg_fr.2.2 _ _ is2 (show (prg fk pp nn q_179 ((b0 + 1) + 1) v0 v1 G7).1 = true by rw [prg_c.1]; exact hr2)
                              have hP : va_P (dC, dI) cl ([(qp, .inr (3, [.ref qc, .ref qt, .ref qf, .int (nI ((prc fk pp (b0 + 1 + 1) v0 v1).2.1))])), (qt, .inr (1, [w0, w1, .ref qk, .ref ql, .ref qn, .ref qh, .ref qe])), (qk, .inl (cI, 1001, .inl fk)), (ql, .inl (cI, 1001, .inl (nF pp))), (qn, .inl (cI, 1001, .inl (nF nn))), (qh, .inl (cL, 1001, .inr (.inl fh))), (qe, .inl (cL, 1001, .inr (.inl fl))), (qf, .inr (2, [v0, v1]))] ++ va_pl u7.1 (gE cO ((prg fk pp nn q_179 ((b0 + 1) + 1) v0 v1 G7).2.2))) H := hP
                              have hD : va_D A ([(qp, .inr (3, [.ref qc, .ref qt, .ref qf, .int (nI ((prc fk pp (b0 + 1 + 1) v0 v1).2.1))])), (qt, .inr (1, [w0, w1, .ref qk, .ref ql, .ref qn, .ref qh, .ref qe])), (qk, .inl (cI, 1001, .inl fk)), (ql, .inl (cI, 1001, .inl (nF pp))), (qn, .inl (cI, 1001, .inl (nF nn))), (qh, .inl (cL, 1001, .inr (.inl fh))), (qe, .inl (cL, 1001, .inr (.inl fl))), (qf, .inr (2, [v0, v1]))] ++ va_pl u7.1 (gE cO ((prg fk pp nn q_179 ((b0 + 1) + 1) v0 v1 G7).2.2))) := hD
                              have hX : (plk fk pp (((xs.find? (ftk G (fh (b0 + 1)) (fl (b0 + 1))))).isSome || (((ys.find? (ftk G (fh (b0 + 1)) (fl (b0 + 1))))).isSome || decide (ys.length < 30))) a v0 v1) = (true, ((prc fk pp (b0 + 1 + 1) v0 v1).2.1, v0, v1)) := by unfold plk; rw [if_pos tk_1, if_pos hr1, hbe, if_pos tk_33, if_neg (show ¬ (fk (b0 + 1) = nI 10 ∨ fk (b0 + 1) = nI 11) from fun q9 => by rcases q9 with q9 | q9; exact se_40 q9; exact se_108 q9), if_pos tk_174, if_pos (show (((xs.find? (ftk G (fh (b0 + 1)) (fl (b0 + 1))))).isSome || (((ys.find? (ftk G (fh (b0 + 1)) (fl (b0 + 1))))).isSome || decide (ys.length < 30))) = true by rw [hf1, hf2]; simp; omega)]; exact Prod.ext hr2 hb3.1
                              refine W.widen (k := 8) (n := 1230) (by omega) (by omega) ?_
                              exact wr_z (x := (prg fk pp nn q_179 ((b0 + 1) + 1) v0 v1 G7).1) hx hb hr hlocks (((prc fk pp (b0 + 1 + 1) v0 v1).2.1, v0, v1), u7.1, (prg fk pp nn q_179 ((b0 + 1) + 1) v0 v1 G7).2.2) ⟨by rw [hX, prg_c.1, hr2], by rw [hX], ⟨hL, fz2⟩, fun _ => ⟨q_247, q_6, nm1, q_179, nm2, (some w5), ⟨frek, fre1s, fre1n, fre2s, fre2n, hs12, hn12⟩, ik, is1, in1, in2, l_lk, Or.inr ⟨fun q9 => by rcases q9 with q9 | q9; exact se_40 q9; exact se_108 q9, is2, Or.inr ⟨hf1, hf2, w5, frew, iw, rfl, l_li⟩⟩⟩⟩ hK hP hD hS d_Parser_parseLink_198
                            · have hr2 : (prc fk pp (b0 + 1 + 1) v0 v1).1 = false := by simpa using hr2
                              have hP : va_P (dC, dI) cl ([(qp, .inr (3, [.ref qc, .ref qt, .ref qf, .int (nI ((prc fk pp (b0 + 1 + 1) v0 v1).2.1))])), (qt, .inr (1, [w0, w1, .ref qk, .ref ql, .ref qn, .ref qh, .ref qe])), (qk, .inl (cI, 1001, .inl fk)), (ql, .inl (cI, 1001, .inl (nF pp))), (qn, .inl (cI, 1001, .inl (nF nn))), (qh, .inl (cL, 1001, .inr (.inl fh))), (qe, .inl (cL, 1001, .inr (.inl fl))), (qf, .inr (2, [(prc fk pp (b0 + 1 + 1) v0 v1).2.2.1, (prc fk pp (b0 + 1 + 1) v0 v1).2.2.2]))] ++ va_pl u7.1 (gE cO ((prg fk pp nn q_179 ((b0 + 1) + 1) v0 v1 G7).2.2))) H := hP
                              have hD : va_D A ([(qp, .inr (3, [.ref qc, .ref qt, .ref qf, .int (nI ((prc fk pp (b0 + 1 + 1) v0 v1).2.1))])), (qt, .inr (1, [w0, w1, .ref qk, .ref ql, .ref qn, .ref qh, .ref qe])), (qk, .inl (cI, 1001, .inl fk)), (ql, .inl (cI, 1001, .inl (nF pp))), (qn, .inl (cI, 1001, .inl (nF nn))), (qh, .inl (cL, 1001, .inr (.inl fh))), (qe, .inl (cL, 1001, .inr (.inl fl))), (qf, .inr (2, [(prc fk pp (b0 + 1 + 1) v0 v1).2.2.1, (prc fk pp (b0 + 1 + 1) v0 v1).2.2.2]))] ++ va_pl u7.1 (gE cO ((prg fk pp nn q_179 ((b0 + 1) + 1) v0 v1 G7).2.2))) := hD
                              have hX : (plk fk pp (((xs.find? (ftk G (fh (b0 + 1)) (fl (b0 + 1))))).isSome || (((ys.find? (ftk G (fh (b0 + 1)) (fl (b0 + 1))))).isSome || decide (ys.length < 30))) a v0 v1) = (false, ((prc fk pp (b0 + 1 + 1) v0 v1).2.1, (prc fk pp (b0 + 1 + 1) v0 v1).2.2.1, (prc fk pp (b0 + 1 + 1) v0 v1).2.2.2)) := by unfold plk; rw [if_pos tk_1, if_pos hr1, hbe, if_pos tk_33, if_neg (show ¬ (fk (b0 + 1) = nI 10 ∨ fk (b0 + 1) = nI 11) from fun q9 => by rcases q9 with q9 | q9; exact se_40 q9; exact se_108 q9), if_pos tk_174, if_pos (show (((xs.find? (ftk G (fh (b0 + 1)) (fl (b0 + 1))))).isSome || (((ys.find? (ftk G (fh (b0 + 1)) (fl (b0 + 1))))).isSome || decide (ys.length < 30))) = true by rw [hf1, hf2]; simp; omega)]; exact Prod.ext hr2 rfl
                              refine W.widen (k := 8) (n := 1230) (by omega) (by omega) ?_
                              exact wr_z (x := (prg fk pp nn q_179 ((b0 + 1) + 1) v0 v1 G7).1) hx hb hr hlocks (((prc fk pp (b0 + 1 + 1) v0 v1).2.1, (prc fk pp (b0 + 1 + 1) v0 v1).2.2.1, (prc fk pp (b0 + 1 + 1) v0 v1).2.2.2), u7.1, (prg fk pp nn q_179 ((b0 + 1) + 1) v0 v1 G7).2.2) ⟨by rw [hX, prg_c.1, hr2], by rw [hX], ⟨hL, fz2⟩, fun q9 => by rw [hX] at q9; exact Bool.noConfusion q9⟩ hK hP hD hS d_Parser_parseLink_198
                        · exact absurd (tk_174.symm.trans c_178) (by decide)
                      · have tk_174 : wn_ok fk (b0 + 1) true = false := by simpa using tk_174
                        rw [wn_F tk_174] at u_175e
                        subst u_175e
                        have hP : va_P (dC, dI) cl ([(qn, .inl (cI, 1001, .inl (nF nn))), (qh, .inl (cL, 1001, .inr (.inl fh))), (qe, .inl (cL, 1001, .inr (.inl fl))), (qp, .inr (3, [.ref qc, .ref qt, .ref qf, .int (nI (b0 + 1))])), (qt, .inr (1, [w0, w1, .ref qk, .ref ql, .ref qn, .ref qh, .ref qe])), (qk, .inl (cI, 1001, .inl fk)), (ql, .inl (cI, 1001, .inl (nF pp))), (qf, .inr (2, [.int (if fk (b0 + 1) = nI 3 ∨ fk (b0 + 1) = nI 2 then nI 2 else nI 1), .int (nI (pp (b0 + 1)))]))] ++ va_pl (L ++ [q_6] ++ [nm1]) (gE cO G2)) H := hP
                        have hD : va_D A ([(qn, .inl (cI, 1001, .inl (nF nn))), (qh, .inl (cL, 1001, .inr (.inl fh))), (qe, .inl (cL, 1001, .inr (.inl fl))), (qp, .inr (3, [.ref qc, .ref qt, .ref qf, .int (nI (b0 + 1))])), (qt, .inr (1, [w0, w1, .ref qk, .ref ql, .ref qn, .ref qh, .ref qe])), (qk, .inl (cI, 1001, .inl fk)), (ql, .inl (cI, 1001, .inl (nF pp))), (qf, .inr (2, [.int (if fk (b0 + 1) = nI 3 ∨ fk (b0 + 1) = nI 2 then nI 2 else nI 1), .int (nI (pp (b0 + 1)))]))] ++ va_pl (L ++ [q_6] ++ [nm1]) (gE cO G2)) := hD
                        refine nv_bif_ne (tgt := 126) hx hb d_Parser_parseLink_121 (by decide) (fun c_274 => ?_) (fun c_274 => ?_)
                        · exact absurd (tk_174.symm.trans c_274) (by decide)
                        · refine lv_iconst (v := nI 0) hx hb d_Parser_parseLink_124 (by decide) ?_
                          have hX : (plk fk pp (((xs.find? (ftk G (fh (b0 + 1)) (fl (b0 + 1))))).isSome || (((ys.find? (ftk G (fh (b0 + 1)) (fl (b0 + 1))))).isSome || decide (ys.length < 30))) a v0 v1) = (false, (b0 + 1, .int (if fk (b0 + 1) = nI 3 ∨ fk (b0 + 1) = nI 2 then nI 2 else nI 1), .int (nI (pp (b0 + 1))))) := by unfold plk; (rw [if_pos tk_1, if_pos hr1, hbe, if_pos tk_33, if_neg (show ¬ (fk (b0 + 1) = nI 10 ∨ fk (b0 + 1) = nI 11) from fun q9 => by rcases q9 with q9 | q9; exact se_40 q9; exact se_108 q9), if_neg (show ¬ wn_ok fk (b0 + 1) true = true by rw [tk_174]; decide), wn_F tk_174]) <;> rfl
                          refine W.widen (k := 8) (n := 1230) (by omega) (by omega) ?_
                          exact wr_z (x := false) hx hb hr hlocks ((b0 + 1, .int (if fk (b0 + 1) = nI 3 ∨ fk (b0 + 1) = nI 2 then nI 2 else nI 1), .int (nI (pp (b0 + 1)))), L ++ [q_6] ++ [nm1], G2) ⟨by rw [hX], by rw [hX], ⟨hL, (LFs_of fo (fun b => b = lk ∨ b = li))⟩, fun q9 => by rw [hX] at q9; exact Bool.noConfusion q9⟩ hK (hP.part [3, 4, 5, 6, 0, 1, 2, 7] rfl) (hD.part [3, 4, 5, 6, 0, 1, 2, 7] (by decide) rfl) hS d_Parser_parseLink_125
                    · exact absurd (se_108d.symm.trans c_173) (by decide)
            · exact absurd (tk_33.symm.trans c_37) (by decide)
          · have tk_33 : wt_ok fk b0 (nI 61) = false := by simpa using tk_33
            rw [wt_F tk_33] at u_34e
            subst u_34e
            have hP : va_P (dC, dI) cl ([(qn, .inl (cI, 1001, .inl (nF nn))), (qh, .inl (cL, 1001, .inr (.inl fh))), (qe, .inl (cL, 1001, .inr (.inl fl))), (qp, .inr (3, [.ref qc, .ref qt, .ref qf, .int (nI b0)])), (qt, .inr (1, [w0, w1, .ref qk, .ref ql, .ref qn, .ref qh, .ref qe])), (qk, .inl (cI, 1001, .inl fk)), (ql, .inl (cI, 1001, .inl (nF pp))), (qf, .inr (2, [.int (if fk b0 = nI 2 then nI 2 else nI 1), .int (nI (pp b0))]))] ++ va_pl (L ++ [q_6] ++ [nm1]) (gE cO G2)) H := hP
            have hD : va_D A ([(qn, .inl (cI, 1001, .inl (nF nn))), (qh, .inl (cL, 1001, .inr (.inl fh))), (qe, .inl (cL, 1001, .inr (.inl fl))), (qp, .inr (3, [.ref qc, .ref qt, .ref qf, .int (nI b0)])), (qt, .inr (1, [w0, w1, .ref qk, .ref ql, .ref qn, .ref qh, .ref qe])), (qk, .inl (cI, 1001, .inl fk)), (ql, .inl (cI, 1001, .inl (nF pp))), (qf, .inr (2, [.int (if fk b0 = nI 2 then nI 2 else nI 1), .int (nI (pp b0))]))] ++ va_pl (L ++ [q_6] ++ [nm1]) (gE cO G2)) := hD
            refine nv_bif_ne (tgt := 41) hx hb d_Parser_parseLink_36 (by decide) (fun c_275 => ?_) (fun c_275 => ?_)
            · exact absurd (tk_33.symm.trans c_275) (by decide)
            · refine lv_iconst (v := nI 0) hx hb d_Parser_parseLink_39 (by decide) ?_
              have hX : (plk fk pp (((xs.find? (ftk G (fh (b0 + 1)) (fl (b0 + 1))))).isSome || (((ys.find? (ftk G (fh (b0 + 1)) (fl (b0 + 1))))).isSome || decide (ys.length < 30))) a v0 v1) = (false, (b0, .int (if fk b0 = nI 2 then nI 2 else nI 1), .int (nI (pp b0)))) := by unfold plk; (rw [if_pos tk_1, if_pos hr1, hbe, if_neg (show ¬ wt_ok fk b0 (nI 61) = true by rw [tk_33]; decide), wt_F tk_33]) <;> rfl
              refine W.widen (k := 8) (n := 1230) (by omega) (by omega) ?_
              exact wr_z (x := false) hx hb hr hlocks ((b0, .int (if fk b0 = nI 2 then nI 2 else nI 1), .int (nI (pp b0))), L ++ [q_6] ++ [nm1], G2) ⟨by rw [hX], by rw [hX], ⟨hL, (LFs_of fo (fun b => b = lk ∨ b = li))⟩, fun q9 => by rw [hX] at q9; exact Bool.noConfusion q9⟩ hK (hP.part [3, 4, 5, 6, 0, 1, 2, 7] rfl) (hD.part [3, 4, 5, 6, 0, 1, 2, 7] (by decide) rfl) hS d_Parser_parseLink_40
      · have hr1 : (prc fk pp (a + 1) v0 v1).1 = false := by simpa using hr1
        have fq : LFs G (prg fk pp nn q_6 (a + 1) v0 v1 G1).2.2 (fun b => b = lk ∨ b = li) := LFs_of (fun b h9 => (fo b h9).tr (prg_fr.2.1 b (fun e9 => h9 (by rw [e9]; exact fre1z)))) _
        have hP : va_P (dC, dI) cl ([(qp, .inr (3, [.ref qc, .ref qt, .ref qf, .int (nI ((prc fk pp (a + 1) v0 v1).2.1))])), (qt, .inr (1, [w0, w1, .ref qk, .ref ql, .ref qn, .ref qh, .ref qe])), (qk, .inl (cI, 1001, .inl fk)), (ql, .inl (cI, 1001, .inl (nF pp))), (qn, .inl (cI, 1001, .inl (nF nn))), (qh, .inl (cL, 1001, .inr (.inl fh))), (qe, .inl (cL, 1001, .inr (.inl fl))), (qf, .inr (2, [(prc fk pp (a + 1) v0 v1).2.2.1, (prc fk pp (a + 1) v0 v1).2.2.2]))] ++ va_pl (L ++ [q_6] ++ [nm1]) (gE cO ((prg fk pp nn q_6 (a + 1) v0 v1 G1).2.2))) H := hP
        have hD : va_D A ([(qp, .inr (3, [.ref qc, .ref qt, .ref qf, .int (nI ((prc fk pp (a + 1) v0 v1).2.1))])), (qt, .inr (1, [w0, w1, .ref qk, .ref ql, .ref qn, .ref qh, .ref qe])), (qk, .inl (cI, 1001, .inl fk)), (ql, .inl (cI, 1001, .inl (nF pp))), (qn, .inl (cI, 1001, .inl (nF nn))), (qh, .inl (cL, 1001, .inr (.inl fh))), (qe, .inl (cL, 1001, .inr (.inl fl))), (qf, .inr (2, [(prc fk pp (a + 1) v0 v1).2.2.1, (prc fk pp (a + 1) v0 v1).2.2.2]))] ++ va_pl (L ++ [q_6] ++ [nm1]) (gE cO ((prg fk pp nn q_6 (a + 1) v0 v1 G1).2.2))) := hD
        refine nv_bif_eq (tgt := 39) hx hb d_Parser_parseLink_27 (by decide) (fun c_276 => ?_) (fun c_276 => ?_)
        · refine lv_iconst (v := nI 0) hx hb d_Parser_parseLink_39 (by decide) ?_
          have hX : (plk fk pp (((xs.find? (ftk G (fh ((prc fk pp (a + 1) v0 v1).2.1 + 1)) (fl ((prc fk pp (a + 1) v0 v1).2.1 + 1))))).isSome || (((ys.find? (ftk G (fh ((prc fk pp (a + 1) v0 v1).2.1 + 1)) (fl ((prc fk pp (a + 1) v0 v1).2.1 + 1))))).isSome || decide (ys.length < 30))) a v0 v1) = (false, ((prc fk pp (a + 1) v0 v1).2.1, (prc fk pp (a + 1) v0 v1).2.2.1, (prc fk pp (a + 1) v0 v1).2.2.2)) := by unfold plk; (rw [if_pos tk_1, if_neg (show ¬ (prc fk pp (a + 1) v0 v1).1 = true by rw [hr1]; decide)]) <;> rfl
          refine W.widen (k := 8) (n := 1230) (by omega) (by omega) ?_
          exact wr_z (x := false) hx hb hr hlocks (((prc fk pp (a + 1) v0 v1).2.1, (prc fk pp (a + 1) v0 v1).2.2.1, (prc fk pp (a + 1) v0 v1).2.2.2), L ++ [q_6] ++ [nm1], (prg fk pp nn q_6 (a + 1) v0 v1 G1).2.2) ⟨by rw [hX], by rw [hX], ⟨hL, fq⟩, fun q9 => by rw [hX] at q9; exact Bool.noConfusion q9⟩ hK hP hD hS d_Parser_parseLink_40
        · exact absurd ((prg_c.1.trans hr1).symm.trans c_276) (by decide)
    · exact absurd (tk_1.symm.trans c_5) (by decide)
  · have tk_1 : wn_ok fk a true = false := by simpa using tk_1
    rw [wn_F tk_1] at u_2e
    subst u_2e
    have hP : va_P (dC, dI) cl ([(qn, .inl (cI, 1001, .inl (nF nn))), (qh, .inl (cL, 1001, .inr (.inl fh))), (qe, .inl (cL, 1001, .inr (.inl fl))), (qp, .inr (3, [.ref qc, .ref qt, .ref qf, .int (nI a)])), (qt, .inr (1, [w0, w1, .ref qk, .ref ql, .ref qn, .ref qh, .ref qe])), (qk, .inl (cI, 1001, .inl fk)), (ql, .inl (cI, 1001, .inl (nF pp))), (qf, .inr (2, [.int (if fk a = nI 3 ∨ fk a = nI 2 then nI 2 else nI 1), .int (nI (pp a))]))] ++ va_pl L (gE cO G)) H := hP
    have hD : va_D A ([(qn, .inl (cI, 1001, .inl (nF nn))), (qh, .inl (cL, 1001, .inr (.inl fh))), (qe, .inl (cL, 1001, .inr (.inl fl))), (qp, .inr (3, [.ref qc, .ref qt, .ref qf, .int (nI a)])), (qt, .inr (1, [w0, w1, .ref qk, .ref ql, .ref qn, .ref qh, .ref qe])), (qk, .inl (cI, 1001, .inl fk)), (ql, .inl (cI, 1001, .inl (nF pp))), (qf, .inr (2, [.int (if fk a = nI 3 ∨ fk a = nI 2 then nI 2 else nI 1), .int (nI (pp a))]))] ++ va_pl L (gE cO G)) := hD
    refine nv_bif_ne (tgt := 10) hx hb d_Parser_parseLink_5 (by decide) (fun c_277 => ?_) (fun c_277 => ?_)
    · exact absurd (tk_1.symm.trans c_277) (by decide)
    · refine lv_iconst (v := nI 0) hx hb d_Parser_parseLink_8 (by decide) ?_
      have hX : (plk fk pp (((xs.find? (ftk G (fh ((prc fk pp (a + 1) v0 v1).2.1 + 1)) (fl ((prc fk pp (a + 1) v0 v1).2.1 + 1))))).isSome || (((ys.find? (ftk G (fh ((prc fk pp (a + 1) v0 v1).2.1 + 1)) (fl ((prc fk pp (a + 1) v0 v1).2.1 + 1))))).isSome || decide (ys.length < 30))) a v0 v1) = (false, (a, .int (if fk a = nI 3 ∨ fk a = nI 2 then nI 2 else nI 1), .int (nI (pp a)))) := by unfold plk; (rw [if_neg (show ¬ wn_ok fk a true = true by rw [tk_1]; decide), wn_F tk_1]) <;> rfl
      refine W.widen (k := 8) (n := 1230) (by omega) (by omega) ?_
      exact wr_z (x := false) hx hb hr hlocks ((a, .int (if fk a = nI 3 ∨ fk a = nI 2 then nI 2 else nI 1), .int (nI (pp a))), L, G) ⟨by rw [hX], by rw [hX], ⟨hL, (LFs_of fo (fun b => b = lk ∨ b = li))⟩, fun q9 => by rw [hX] at q9; exact Bool.noConfusion q9⟩ hK (hP.part [3, 4, 5, 6, 0, 1, 2, 7] rfl) (hD.part [3, 4, 5, 6, 0, 1, 2, 7] (by decide) rfl) hS d_Parser_parseLink_9
