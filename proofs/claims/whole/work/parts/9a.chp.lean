/-- what holds of the reference's state between two chips -/
def PB0 (ft tv : Nat → Int32) (nv : Nat → Nat) (T : Nat) (fk : Nat → Int32) (pp nn : Nat → Nat) (fh fl : Nat → Int64) (P : PS) : Prop := P.1 13 = 0 ∧ tke ft tv nv T P.2.2.1 fk pp nn fh fl ∧ wl tv nv T P ∧ ct P ∧ SI ft tv nv P
def RE0 (t0 qc qna qdf : Nat) (ft tv : Nat → Int32) (fh fl : Nat → Int64) (pp nn : Nat → Nat) (G : PG) (P : PS) : Prop := ∃ ad tg, RX t0 qc qna qdf ft tv fh fl pp nn (P.1 15) G ad tg P
/-- the rest of a chip's text behind each of its stages -/
def cq4 (ft tv : Nat → Int32) (nv : Nat → Nat) (s : PS) : PS := sp_sign tv (nI 125) (ch_loop ft tv nv 1002 s)
def cq3 (ft tv : Nat → Int32) (nv : Nat → Nat) (s : PS) : PS := cq4 ft tv nv (sp_sign tv (nI 58) s)
def cq2 (ft tv : Nat → Int32) (nv : Nat → Nat) (s : PS) : PS := cq3 ft tv nv (sp_word tv (nI 3) s)
def cq1 (ft tv : Nat → Int32) (nv : Nat → Nat) (s : PS) : PS := cq2 ft tv nv (ch_pl tv nv true (sp_word tv (nI (1 + 1)) s))
def cq0 (ft tv : Nat → Int32) (nv : Nat → Nat) (s : PS) : PS := cq1 ft tv nv (ch_pl tv nv false (sp_word tv (nI (0 + 1)) s))
section CHP
variable {t0 qc qna qdf m : Nat} {ft tv : Nat → Int32} {nv : Nat → Nat} {T : Nat} {fk : Nat → Int32} {pp nn : Nat → Nat} {fh fl : Nat → Int64} {G G' : PG} {ad : Nat → Nat → Nat} {tg : Nat → Nat × Nat} {P P0 : PS} {v0 v1 : Value}
theorem PBd.b0 (B : PBd ft tv nv T fk pp nn fh fl P) : PB0 ft tv nv T fk pp nn fh fl P := ⟨B.1, B.2.1, B.2.2.1, cb_ct B.2.2.2.1, B.2.2.2.2⟩
theorem PB0.le (B : PB0 ft tv nv T fk pp nn fh fl P) : P.1 12 ≤ T := B.2.2.1.2.1.2
theorem PB0.l3 (B : PB0 ft tv nv T fk pp nn fh fl P) : P.1 12 ≤ 1000 := Nat.le_trans B.le B.2.1.1
theorem stk_c4 {s : PS} (z : ¬ s.1 13 = 0) : (cq4 ft tv nv s).1 13 = s.1 13 ∧ (cq4 ft tv nv s).1 14 = s.1 14 := by unfold cq4; rw [ch_loop_e z]; exact stk_sign z
theorem stk_c3 {s : PS} (z : ¬ s.1 13 = 0) : (cq3 ft tv nv s).1 13 = s.1 13 ∧ (cq3 ft tv nv s).1 14 = s.1 14 := by
  have a := stk_sign (tv := tv) (c := nI 58) z
  have b := stk_c4 (ft := ft) (tv := tv) (nv := nv) (s := sp_sign tv (nI 58) s) (by rw [a.1]; exact z)
  exact ⟨b.1.trans a.1, b.2.trans a.2⟩
theorem stk_c2 {s : PS} (z : ¬ s.1 13 = 0) : (cq2 ft tv nv s).1 13 = s.1 13 ∧ (cq2 ft tv nv s).1 14 = s.1 14 := by
  have a := stk_word (tv := tv) (c := nI 3) z
  have b := stk_c3 (ft := ft) (tv := tv) (nv := nv) (s := sp_word tv (nI 3) s) (by rw [a.1]; exact z)
  exact ⟨b.1.trans a.1, b.2.trans a.2⟩
theorem chpl_e {ob : Bool} {s : PS} (z : ¬ s.1 13 = 0) : ch_pl tv nv ob s = s := if_neg z
theorem stk_c1 {s : PS} (z : ¬ s.1 13 = 0) : (cq1 ft tv nv s).1 13 = s.1 13 ∧ (cq1 ft tv nv s).1 14 = s.1 14 := by
  have a := stk_word (tv := tv) (c := nI (1 + 1)) z
  have za : ¬ (sp_word tv (nI (1 + 1)) s).1 13 = 0 := by rw [a.1]; exact z
  have b := stk_c2 (ft := ft) (tv := tv) (nv := nv) za
  unfold cq1
  rw [chpl_e za]
  exact ⟨b.1.trans a.1, b.2.trans a.2⟩
theorem stk_c0 {s : PS} (z : ¬ s.1 13 = 0) : (cq0 ft tv nv s).1 13 = s.1 13 ∧ (cq0 ft tv nv s).1 14 = s.1 14 := by
  have a := stk_word (tv := tv) (c := nI (0 + 1)) z
  have za : ¬ (sp_word tv (nI (0 + 1)) s).1 13 = 0 := by rw [a.1]; exact z
  have b := stk_c1 (ft := ft) (tv := tv) (nv := nv) za
  unfold cq0
  rw [chpl_e za]
  exact ⟨b.1.trans a.1, b.2.trans a.2⟩
theorem z12_c4 {s : PS} : s.1 12 ≤ (cq4 ft tv nv s).1 12 := Nat.le_trans (z12_ch 1002 s) (z12_sign _ _ _)
theorem z12_c3 {s : PS} : s.1 12 ≤ (cq3 ft tv nv s).1 12 := Nat.le_trans (z12_sign _ _ _) z12_c4
theorem z12_c2 {s : PS} : s.1 12 ≤ (cq2 ft tv nv s).1 12 := Nat.le_trans (z12_word _ _ _) z12_c3
theorem z12_c1 {s : PS} : s.1 12 ≤ (cq1 ft tv nv s).1 12 := Nat.le_trans (Nat.le_trans (z12_word _ _ _) z12_chpl) z12_c2
theorem z12_c0 {s : PS} : s.1 12 ≤ (cq0 ft tv nv s).1 12 := Nat.le_trans (Nat.le_trans (z12_word _ _ _) z12_chpl) z12_c1
theorem chip_c (z : (ch3 tv P).1 13 = 0) : sp_chip ft tv nv P = cq0 ft tv nv (ch_s tv P) := by
  unfold sp_chip ch_s
  rw [if_neg (by omega), if_neg (by omega)]; rfl
theorem chip_b (z : ¬ (ch3 tv P).1 13 = 0) : sp_chip ft tv nv P = ch_s tv P := by
  unfold sp_chip ch_s
  rw [if_pos (by omega), if_pos (by omega)]
/-- a fault at the beginning of a chip -/
theorem chip_z (z : ¬ (ch_s tv P).1 13 = 0) : (sp_chip ft tv nv P).1 13 = (ch_s tv P).1 13 ∧ (sp_chip ft tv nv P).1 14 = (ch_s tv P).1 14 := by
  by_cases q : (ch3 tv P).1 13 = 0
  · rw [chip_c q]; exact stk_c0 z
  · rw [chip_b q]; exact ⟨rfl, rfl⟩
theorem z12_ch3 : P.1 12 ≤ (ch3 tv P).1 12 := by
  have h1 : P.1 12 ≤ (ch1 tv P).1 12 := z12_word _ _ _
  have h2 : (ch1 tv P).1 12 ≤ (ch2 tv P).1 12 := by
    unfold ch2; split
    · exact z12_syntax _
    · exact Nat.le_refl _
  unfold ch3
  split
  · unfold sp_room; split
    · omega
    · rw [zk_wrong (by decide) (by decide)]; omega
  · omega
theorem z12_chs : P.1 12 ≤ (ch_s tv P).1 12 := by
  unfold ch_s
  split
  · exact z12_ch3
  · exact Nat.le_trans z12_ch3 (Nat.le_trans (z12_go (ch4 (ch3 tv P))) (z12_sign _ _ _))
theorem z12_chip : (ch_s tv P).1 12 ≤ (sp_chip ft tv nv P).1 12 := by
  by_cases q : (ch3 tv P).1 13 = 0
  · rw [chip_c q]; exact z12_c0
  · rw [chip_b q]; exact Nat.le_refl _
theorem z12_tt {ft tv : Nat → Int32} {nv : Nat → Nat} : ∀ (k : Nat) (P : PS), P.1 12 ≤ (tt_loop ft tv nv k P).1 12
  | 0, P => Nat.le_refl _
  | k + 1, P => by
    have h : P.1 12 ≤ (sp_chip ft tv nv P).1 12 := Nat.le_trans z12_chs z12_chip
    rw [tt_loop_s]
    split
    · split
      · exact h
      · exact Nat.le_trans h (z12_tt k _)
    · exact Nat.le_refl _
theorem tt_ge {f : Nat} (hz : P.1 13 = 0) : (sp_chip ft tv nv P).1 12 ≤ (tt_loop ft tv nv (f + 1) P).1 12 := by
  rw [tt_loop_s, if_pos hz]
  split
  · exact Nat.le_refl _
  · exact z12_tt f _
theorem tt_bad {f : Nat} {s : PS} (hz : P.1 13 = 0) (e : (sp_chip ft tv nv P).1 13 = s.1 13 ∧ (sp_chip ft tv nv P).1 14 = s.1 14) (z : ¬ s.1 13 = 0) : ¬ (tt_loop ft tv nv (f + 1) P).1 13 = 0 ∧ ftv (tt_loop ft tv nv (f + 1) P) = ftv s := by
  have zc : ¬ (sp_chip ft tv nv P).1 13 = 0 := by rw [e.1]; exact z
  have h : tt_loop ft tv nv (f + 1) P = sp_chip ft tv nv P := by
    rw [tt_loop_s, if_pos hz]
    split
    · rfl
    · exact tt_loop_e zc
  rw [h]
  exact ⟨zc, by unfold ftv; rw [e.1, e.2]⟩
/-- room for a step from A to B on the way to X -/
theorem rch {A B X P0 : PS} (h0 : P0.1 12 ≤ A.1 12) (hA : A.1 12 ≤ B.1 12) (hB : B.1 12 ≤ X.1 12) (hb : ¬ B.1 13 = 0 → ¬ X.1 13 = 0) : 4 * (A.1 12 - P0.1 12) + kcc B A ≤ kcc X P0 ∧ 700 * (A.1 12 - P0.1 12) + kss B A ≤ kss X P0 := by
  by_cases z : B.1 13 = 0
  · have a := kcc_t (P := A) z
    have g := kcc_g X P0
    rw [a.1, a.2]
    omega
  · have a := kcc_f (P := A) z
    have g := kcc_f (P := P0) (hb z)
    rw [a.1, a.2, g.1, g.2]
    omega
theorem chs_of {R : PS} (hc : ct R) (hz : R.1 13 = 0) (hk : R.2.2.1 7 (R.1 12) = 1) : chs R (sp_go (ch4 R)) := by
  have g12 : (sp_go (ch4 R)).1 12 = R.1 12 + 1 := if_pos hz
  refine ⟨rfl, rfl, rfl, rfl, rfl, by omega, hk, va_up_self _ _ _, va_up_self _ _ _, va_up_self _ _ _, va_up_self _ _ _, fun k j hh => ?_, rfl, fun z => ?_⟩
  · show (if k = 36 then (fun i => if i = R.1 15 then R.1 37 else R.2.2.1 36 i) else (if k = 23 then (fun i => if i = R.1 15 then R.1 24 else R.2.2.1 23 i) else (if k = 17 then (fun i => if i = R.1 15 then R.1 18 else R.2.2.1 17 i) else (if k = 16 then (fun i => if i = R.1 15 then R.1 12 else R.2.2.1 16 i) else R.2.2.1 k)))) j = _
    by_cases q : j = R.1 15
    · rcases hh with hh | hh
      · rw [if_neg hh.2.2.2, if_neg hh.2.2.1, if_neg hh.2.1, if_neg hh.1]
      · exact absurd q hh
    · by_cases q1 : k = 36
      · subst q1; rw [if_pos rfl]; exact if_neg q
      rw [if_neg q1]
      by_cases q2 : k = 23
      · subst q2; rw [if_pos rfl]; exact if_neg q
      rw [if_neg q2]
      by_cases q3 : k = 17
      · subst q3; rw [if_pos rfl]; exact if_neg q
      rw [if_neg q3]
      by_cases q4 : k = 16
      · subst q4; rw [if_pos rfl]; exact if_neg q
      rw [if_neg q4]
  · obtain ⟨c1, c2, c3, c4, c5⟩ := hc; omega
/-- what startChip does, seen from the reference -/
theorem chip_step {r : Option Nat} {u : (Nat × Value × Value) × List Nat × PG} (B : PB0 ft tv nv T fk pp nn fh fl P) (hR : RX t0 qc qna qdf ft tv fh fl pp nn (P.1 15) G ad tg P)
    (hu : u.1 = (sch fk pp (decide ((rga (ad 0) 0 (P.1 15)).length < 8)) (P.1 12) v0 v1).2) (hfr : gL u.2.1 u.2.2 ∧ LF G u.2.2 qc ∧ ∃ ys, LSx t0 u.2.2 qc ys ∧ ys.length ≤ (rga (ad 0) 0 (P.1 15)).length + 1)
    (hno : (sch fk pp (decide ((rga (ad 0) 0 (P.1 15)).length < 8)) (P.1 12) v0 v1).1 = false → r = none)
    (hp : (sch fk pp (decide ((rga (ad 0) 0 (P.1 15)).length < 8)) (P.1 12) v0 v1).1 = true → ∃ cc0 nm l1 l2 l3, r = some cc0 ∧ G.1 cc0 = 0 ∧ G.1 nm = 0 ∧ G.1 l1 = 0 ∧ G.1 l2 = 0 ∧ G.1 l3 = 0 ∧ isN u.2.2 nm (fh (P.1 12 + 1)) (fl (P.1 12 + 1)) (some (pp (P.1 12 + 1))) ∧ isC u.2.2 cc0 nm 0 (rga (ad 0) 0 (P.1 15)).length l1 l2 l3 0 ∧ (l1 ≠ l2 ∧ l1 ≠ l3 ∧ l2 ≠ l3) ∧ LSx t0 u.2.2 l1 [] ∧ LSx t0 u.2.2 l2 [] ∧ LSx t0 u.2.2 l3 [] ∧ LSx t0 u.2.2 qc (rga (ad 0) 0 (P.1 15) ++ [cc0]) ∧ gL u.2.1 u.2.2 ∧ LF G u.2.2 qc) :
    (∃ cc, (ch_s tv P).1 13 = 0 ∧ r = some cc ∧ u.1 = ((ch_s tv P).1 12, v0, v1) ∧ gL u.2.1 u.2.2 ∧ REP t0 qc qna qdf ft tv fh fl pp nn (P.1 15) u.2.2 (ch_s tv P) cc ∧ PBd ft tv nv T fk pp nn fh fl (ch_s tv P) ∧ (ch_s tv P).1 12 = P.1 12 + 1 + 1 + 1 ∧ (ch_s tv P).1 15 = P.1 15 + 1 ∧ (ch_s tv P).1 24 = (ch_s tv P).2.2.1 23 ((ch_s tv P).1 15 - 1) ∧ (ch_s tv P).1 18 = (ch_s tv P).2.2.1 17 ((ch_s tv P).1 15 - 1) ∧ sp_chip ft tv nv P = cq0 ft tv nv (ch_s tv P)) ∨
    (¬ (ch_s tv P).1 13 = 0 ∧ r = none ∧ u.1.2 = ftv (ch_s tv P) ∧ gL u.2.1 u.2.2 ∧ RB t0 qc qna qdf u.2.2) := by
  rw [rga_len, Nat.sub_zero] at hu hfr hno hp
  have hct := B.2.2.2.1
  obtain ⟨c1, c2⟩ := sch_cmp (v0 := v0) (v1 := v1) B.2.1 B.1 B.le
  have kq : G.1 qc = 7 := by rw [← hR.2.1.1]; exact (hR.1 24 0 (show 0 < 1 by decide)).1
  by_cases z : (ch_s tv P).1 13 = 0
  · obtain ⟨z3, e12, lT⟩ := c2 z
    have t := c1.t z
    obtain ⟨cc, nm, l1, l2, l3, hr, g0, g1, g2, g3, g4, iN, iC, hne, y1, y2, y3, hl, -, hlf⟩ := hp t.1
    obtain ⟨f1, f2, f3, f4, f5⟩ := f_ch3 z3
    obtain ⟨w3, s3, k3⟩ := wl_ch3 B.2.2.1
    have ev : ch_s tv P = sp_sign tv (nI 123) (sp_go (ch4 (ch3 tv P))) := by unfold ch_s; rw [if_neg (by omega)]
    have cR : ct (ch3 tv P) := by
      unfold ct at hct ⊢
      rw [k3 15 (by decide) (by decide) (by decide), k3 18 (by decide) (by decide) (by decide), k3 24 (by decide) (by decide) (by decide), k3 37 (by decide) (by decide) (by decide), k3 27 (by decide) (by decide) (by decide)]
      omega
    have x := chs_of cR z3 f4
    have sR : SI ft tv nv (ch3 tv P) := by rw [f2]; exact SI_g B.2.2.2.2
    have rR : RX t0 qc qna qdf ft tv fh fl pp nn (P.1 15) G ad tg (ch3 tv P) := hR.go (by rw [s3]) (k3 15 (by decide) (by decide) (by decide)) (k3 18 (by decide) (by decide) (by decide)) (k3 24 (by decide) (by decide) (by decide)) (k3 27 (by decide) (by decide) (by decide)) (k3 37 (by decide) (by decide) (by decide))
    have e15 : (ch3 tv P).1 15 = P.1 15 := k3 15 (by decide) (by decide) (by decide)
    obtain ⟨ad', tg', rx, rc⟩ := RX.chip rR sR.1 sR.2.1 sR.2.2.2.1 x (by omega) (frh0 g0) (frh0 g1) (frh0 g2) (frh0 g3) (frh0 g4) (by rw [f5]; exact iN) (by rw [e15]; exact iC) hne y1 y2 y3 (by rw [e15]; exact hl) hlf
    have w4 := ch4_ok w3 cR f3 (by omega)
    have wg : wc tv nv T (sp_go (ch4 (ch3 tv P))) := wc_go ⟨w4.1, w4.2⟩ (by show (ch4 (ch3 tv P)).2.2.1 7 ((ch3 tv P).1 12) = 1; rw [ch4_row (by decide)]; exact f4)
    have s4 : SI ft tv nv (sp_go (ch4 (ch3 tv P))) := ⟨SIc_chip sR.1 x, SIq_chip sR.1 sR.2.1 x, SIl_chip sR.2.2.1 x, SIi_chip sR.2.2.2.1 x, fun z => sR.2.2.2.2 z⟩
    have h4 : tke ft tv nv T (sp_go (ch4 (ch3 tv P))).2.2.1 fk pp nn fh fl := by
      refine B.2.1.of ?_ ?_ ?_
      · show (ch4 (ch3 tv P)).2.2.1 7 = _; rw [ch4_row (by decide), s3]
      · show (ch4 (ch3 tv P)).2.2.1 8 = _; rw [ch4_row (by decide), s3]
      · show (ch4 (ch3 tv P)).2.2.1 9 = _; rw [ch4_row (by decide), s3]
    have B4 : PBd ft tv nv T fk pp nn fh fl (sp_go (ch4 (ch3 tv P))) := ⟨z3, h4, wg.1, wg.2, s4⟩
    have BV : PBd ft tv nv T fk pp nn fh fl (ch_s tv P) := by rw [ev]; exact B4.sgn (by rw [← ev]; exact z)
    have ek : ∀ k, k ≠ 12 → k ≠ 13 → k ≠ 14 → (ch_s tv P).1 k = (sp_go (ch4 (ch3 tv P))).1 k := fun k a b c => by rw [ev]; exact zk_sign a b c
    have ea : (ch_s tv P).2 = (sp_go (ch4 (ch3 tv P))).2 := by rw [ev]; exact ar_sign _ _ _
    have v15 : (ch_s tv P).1 15 = P.1 15 + 1 := by rw [ek 15 (by decide) (by decide) (by decide), x.e15, e15]
    refine Or.inl ⟨cc, z, hr, by rw [hu]; exact t.2, hfr.1, ⟨ad', tg', by rw [ev]; exact rx.sgn, ?_⟩, BV, e12, v15, ?_, ?_, chip_c z3⟩
    · rw [v15, ← e15, ← x.e15]; exact rc
    · rw [v15, ek 24 (by decide) (by decide) (by decide), ea, Nat.add_sub_cancel, ← e15, x.v23, x.e24]
    · rw [v15, ek 18 (by decide) (by decide) (by decide), ea, Nat.add_sub_cancel, ← e15, x.v17, x.e18]
  · have t := c1.f z
    obtain ⟨ys, hy, hyl⟩ := hfr.2.2
    refine Or.inr ⟨z, hno t.1, by rw [hu]; exact t.2, hfr.1, ?_⟩
    have hf := LFs_LF hfr.2.1 kq hy.k.1
    have hS : ∀ b, (fun b => b = qc) b → G.1 b = 6 ∨ G.1 b = 7 := fun b q => Or.inr (by rw [show b = qc from q]; exact kq)
    refine hR.rb hf hS (fun k j a => ?_) hy (by have := hct.1; omega)
    by_cases e : k = 24
    · exact Or.inl e
    · exact Or.inr (fun q => hR.1.ne (Nat.lt_of_lt_of_le a (cnz_le P k)) (show 0 < cno P 24 from (show 0 < 1 by decide)) (fun w => e w.1) (by rw [hR.2.1.1]; exact q))
/-- the list of chips was emptied -/
theorem RB.clear {G' : PG} (h : RB t0 qc qna qdf G) (hl : LSx t0 G' qc []) (hf : LF G G' qc) (e15 : P.1 15 = 0) (e18 : P.1 18 = 0) (e24 : P.1 24 = 0) (e27 : P.1 27 = 0) (e37 : P.1 37 = 0) : RE0 t0 qc qna qdf ft tv fh fl pp nn G' P := by
  obtain ⟨ad, tg, hT, hq, hG, ys, hy, hyl⟩ := h
  have kq : G.1 qc = 7 := by rw [← hq.1]; exact (hT 24 0 (by decide)).1
  have hfs := LFs_LF hf kq hl.k.1
  have hS : ∀ b, (fun b => b = qc) b → G.1 b = 6 ∨ G.1 b = 7 := fun b q => Or.inr (by rw [show b = qc from q]; exact kq)
  refine ⟨ad, tg, ?_, hq, hG.fr hT hfs (fun b a q => by have := hS b q; omega) (fun k j a b q => hT.ne b (show 0 < cnz 24 by decide) (fun w => a w.1) (by rw [hq.1]; exact q)), ?_, fun c hc => by omega, fun c hc => by omega, fun c hc => by omega, fun c hc => by omega, fun c hc => by omega, fun l hl => by omega, fun q l a => by omega, fun c q a => by omega, fun i hi => by omega⟩
  · refine (hT.fr hfs).sub (fun k => ?_)
    rw [cno_k P, e15, e18, e24, e27, e37]
    by_cases h17 : k < 17 ∨ 24 < k
    · repeat' split
      all_goals first | exact Nat.zero_le _ | omega
    · rcases (show k = 17 ∨ k = 18 ∨ k = 19 ∨ k = 20 ∨ k = 21 ∨ k = 22 ∨ k = 23 ∨ k = 24 by omega) with r | r | r | r | r | r | r | r <;> subst r <;> decide
  · rw [hq.1, e15, rga_nil (Nat.le_refl _)]; exact hl
theorem REP.mono {c0 m' : Nat} (h : REP t0 qc qna qdf ft tv fh fl pp nn m G P c0) (hm : m ≤ m') : REP t0 qc qna qdf ft tv fh fl pp nn m' G P c0 := by
  obtain ⟨ad, tg, h1, h2⟩ := h
  exact ⟨ad, tg, h1.mono hm, h2⟩
theorem REP.re0 {c0 : Nat} (h : REP t0 qc qna qdf ft tv fh fl pp nn m G P c0) (hm : m = P.1 15) : RE0 t0 qc qna qdf ft tv fh fl pp nn G P := by
  obtain ⟨ad, tg, h1, h2⟩ := h
  exact ⟨ad, tg, by rw [← hm]; exact h1⟩
end CHP
theorem st_room {ft tv : Nat → Int32} {nv : Nat → Nat} {T : Nat} {fk : Nat → Int32} {pp nn : Nat → Nat} {fh fl : Nat → Int64} {P P0 : PS} {f : Nat} (B : PB0 ft tv nv T fk pp nn fh fl P) (h0 : P0.1 12 ≤ P.1 12) : 4 * (P.1 12 - P0.1 12) + 6 ≤ kcc (tt_loop ft tv nv (f + 1) P) P0 ∧ 700 * (P.1 12 - P0.1 12) + 621 ≤ kss (tt_loop ft tv nv (f + 1) P) P0 := by
  have l1 : (ch_s tv P).1 12 ≤ (tt_loop ft tv nv (f + 1) P).1 12 := Nat.le_trans z12_chip (tt_ge B.1)
  by_cases z : (ch_s tv P).1 13 = 0
  · have e := ((sch_cmp (v0 := .null) (v1 := .null) B.2.1 B.1 B.le).2 z).2.1
    have g := kcc_g (tt_loop ft tv nv (f + 1) P) P0
    omega
  · have g := kcc_f (P := P0) (tt_bad (f := f) B.1 (chip_z (ft := ft) (nv := nv) z) z).1
    have l2 := z12_chs (tv := tv) (P := P)
    rw [g.1, g.2]
    omega
