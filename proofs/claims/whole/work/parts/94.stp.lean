/-- what holds of the reference's state between two steps of the parser without a fault -/
def PBd (ft tv : Nat → Int32) (nv : Nat → Nat) (T : Nat) (fk : Nat → Int32) (pp nn : Nat → Nat) (fh fl : Nat → Int64) (P : PS) : Prop := P.1 13 = 0 ∧ tke ft tv nv T P.2.2.1 fk pp nn fh fl ∧ wl tv nv T P ∧ cb P ∧ SI ft tv nv P
def REP (t0 qc qna qdf : Nat) (ft tv : Nat → Int32) (fh fl : Nat → Int64) (pp nn : Nat → Nat) (m : Nat) (G : PG) (P : PS) (c0 : Nat) : Prop := ∃ ad tg, RX t0 qc qna qdf ft tv fh fl pp nn m G ad tg P ∧ ad 0 (P.1 15 - 1) = c0
/-- the room that the parser's steps from P to X take -/
def kcc (X P : PS) : Nat := 4 * (X.1 12 - P.1 12) + (if X.1 13 = 0 then 0 else 8)
def kss (X P : PS) : Nat := 700 * (X.1 12 - P.1 12) + (if X.1 13 = 0 then 0 else 1300)
theorem kcc_t {X P : PS} (h : X.1 13 = 0) : kcc X P = 4 * (X.1 12 - P.1 12) ∧ kss X P = 700 * (X.1 12 - P.1 12) := by unfold kcc kss; rw [if_pos h, if_pos h]; exact ⟨rfl, rfl⟩
theorem kcc_f {X P : PS} (h : ¬ X.1 13 = 0) : kcc X P = 4 * (X.1 12 - P.1 12) + 8 ∧ kss X P = 700 * (X.1 12 - P.1 12) + 1300 := by unfold kcc kss; rw [if_neg h, if_neg h]; exact ⟨rfl, rfl⟩
theorem kcc_g (X P : PS) : 4 * (X.1 12 - P.1 12) ≤ kcc X P ∧ 700 * (X.1 12 - P.1 12) ≤ kss X P := by unfold kcc kss; exact ⟨Nat.le_add_right _ _, Nat.le_add_right _ _⟩
section PBD
variable {t0 qc qna qdf m : Nat} {ft tv : Nat → Int32} {nv : Nat → Nat} {T : Nat} {fk : Nat → Int32} {pp nn : Nat → Nat} {fh fl : Nat → Int64} {G G' : PG} {ad : Nat → Nat → Nat} {tg : Nat → Nat × Nat} {P X : PS} {v0 v1 : Value} {c0 : Nat}
theorem PBd.le (B : PBd ft tv nv T fk pp nn fh fl P) : P.1 12 ≤ T := B.2.2.1.2.1.2
theorem PBd.l3 (B : PBd ft tv nv T fk pp nn fh fl P) : P.1 12 ≤ 1000 := Nat.le_trans B.le B.2.1.1
theorem PBd.h15 (B : PBd ft tv nv T fk pp nn fh fl P) : 1 ≤ P.1 15 ∧ P.1 15 ≤ 8 := B.2.2.2.1.1.1
theorem PBd.sgn {c : Int32} (B : PBd ft tv nv T fk pp nn fh fl P) (z : (sp_sign tv c P).1 13 = 0) : PBd ft tv nv T fk pp nn fh fl (sp_sign tv c P) :=
  have w := wc_sign (c := c) ⟨B.2.2.1, B.2.2.2.1⟩
  ⟨z, by rw [ar_sign]; exact B.2.1, w.1, w.2, SI_sign B.2.2.2.2⟩
theorem PBd.wrd {c : Int32} (B : PBd ft tv nv T fk pp nn fh fl P) (z : (sp_word tv c P).1 13 = 0) : PBd ft tv nv T fk pp nn fh fl (sp_word tv c P) :=
  have w := wc_word (c := c) ⟨B.2.2.1, B.2.2.2.1⟩
  ⟨z, by rw [ar_word]; exact B.2.1, w.1, w.2, SI_word B.2.2.2.2⟩
theorem RX.sgn {c : Int32} (h : RX t0 qc qna qdf ft tv fh fl pp nn m G ad tg P) : RX t0 qc qna qdf ft tv fh fl pp nn m G ad tg (sp_sign tv c P) := h.go (by rw [ar_sign]) (zk_sign (by decide) (by decide) (by decide)) (zk_sign (by decide) (by decide) (by decide)) (zk_sign (by decide) (by decide) (by decide)) (zk_sign (by decide) (by decide) (by decide)) (zk_sign (by decide) (by decide) (by decide))
theorem RX.wrd {c : Int32} (h : RX t0 qc qna qdf ft tv fh fl pp nn m G ad tg P) : RX t0 qc qna qdf ft tv fh fl pp nn m G ad tg (sp_word tv c P) := h.go (by rw [ar_word]) (zk_word (by decide) (by decide) (by decide)) (zk_word (by decide) (by decide) (by decide)) (zk_word (by decide) (by decide) (by decide)) (zk_word (by decide) (by decide) (by decide)) (zk_word (by decide) (by decide) (by decide))
theorem REP.sgn {c : Int32} (h : REP t0 qc qna qdf ft tv fh fl pp nn m G P c0) : REP t0 qc qna qdf ft tv fh fl pp nn m G (sp_sign tv c P) c0 := by
  obtain ⟨ad, tg, h1, h2⟩ := h
  exact ⟨ad, tg, h1.sgn, by rw [zk_sign (by decide) (by decide) (by decide)]; exact h2⟩
theorem REP.wrd {c : Int32} (h : REP t0 qc qna qdf ft tv fh fl pp nn m G P c0) : REP t0 qc qna qdf ft tv fh fl pp nn m G (sp_word tv c P) c0 := by
  obtain ⟨ad, tg, h1, h2⟩ := h
  exact ⟨ad, tg, h1.wrd, by rw [zk_word (by decide) (by decide) (by decide)]; exact h2⟩
theorem REP.rb (h : REP t0 qc qna qdf ft tv fh fl pp nn m G P c0) (hl : P.1 15 ≤ 100) : RB t0 qc qna qdf G := by
  obtain ⟨ad, tg, h1, h2⟩ := h
  exact h1.rb0 hl
theorem RX.cur (h : RX t0 qc qna qdf ft tv fh fl pp nn m G ad tg P) (h15 : 1 ≤ P.1 15) (hc : ad 0 (P.1 15 - 1) = c0) : (G.1 c0 = 6 ∧ G.2.2.2.2.2 c0 3 = some (ad 2 (P.1 15 - 1)) ∧ G.2.2.2.2.2 c0 4 = some (ad 3 (P.1 15 - 1)) ∧ G.2.2.2.2.2 c0 5 = some (ad 4 (P.1 15 - 1))) ∧ LSx t0 G (ad 2 (P.1 15 - 1)) (rga (ad 5) (P.2.2.1 17 (P.1 15 - 1)) (P.1 18)) ∧ LSx t0 G (ad 3 (P.1 15 - 1)) (rga (ad 7) (P.2.2.1 36 (P.1 15 - 1)) (P.1 37)) ∧ LSx t0 G (ad 4 (P.1 15 - 1)) (rga (ad 9) (P.2.2.1 23 (P.1 15 - 1)) (P.1 24)) := by
  obtain ⟨r1, r2, r3, r4, r5⟩ := h.2.2.2.2.1 (P.1 15 - 1) (by omega)
  rw [show pe P (P.1 15 - 1) = P.1 18 by unfold pe; rw [if_neg (by omega)]] at r3
  rw [show ie P (P.1 15 - 1) = P.1 37 by unfold ie; rw [if_neg (by omega)]] at r4
  rw [show qe P (P.1 15 - 1) = P.1 24 by unfold qe; rw [if_neg (by omega)]] at r5
  rw [hc] at r1
  exact ⟨⟨r1.1, r1.2.2.2.2.1, r1.2.2.2.2.2.1, r1.2.2.2.2.2.2.1⟩, r3, r4, r5⟩
/-- the fault's numbers -/
def ftv (X : PS) : Value × Value := (.int (nI (X.1 13)), .int (nI (X.1 14)))
theorem PBd.pin {ob : Bool} (B : PBd ft tv nv T fk pp nn fh fl P) (k : P.2.2.1 7 (P.1 12) = 1) (hr : P.1 18 - P.2.2.1 17 (P.1 15 - 1) < 8) (z : (pl_one tv nv ob P).1 13 = 0) (h24 : P.1 24 = P.2.2.1 23 (P.1 15 - 1)) (hob : ob = false → ∀ p, P.2.2.1 17 (P.1 15 - 1) ≤ p → p < P.1 18 → P.2.2.2.2 19 p = false) : PBd ft tv nv T fk pp nn fh fl (pl_one tv nv ob P) ∧ (pl_one tv nv ob P).1 24 = (pl_one tv nv ob P).2.2.1 23 ((pl_one tv nv ob P).1 15 - 1) ∧ (ob = false → ∀ p, (pl_one tv nv ob P).2.2.1 17 ((pl_one tv nv ob P).1 15 - 1) ≤ p → p < (pl_one tv nv ob P).1 18 → (pl_one tv nv ob P).2.2.2.2 19 p = false) := by
  obtain ⟨hz, ht, ⟨hA, ho, hv⟩, ⟨hci, h23, h17⟩, hs⟩ := B
  have x := pl_pis hz k z
  obtain ⟨B1, o1, t1, z1, a1, c1⟩ := pl_one_ok (ob := ob) ho hv hA k
  generalize pl_one tv nv ob P = X at *
  have h15 : 1 ≤ P.1 15 := hci.1.1
  have b := (hs.1.fm (P.1 15 - 1) (P.1 15 - 1) (Nat.le_refl _) (by omega)).2
  have e23 : X.2.2.1 23 = P.2.2.1 23 := a1 23 (by decide) (by decide)
  have e17 : X.2.2.1 17 = P.2.2.1 17 := a1 17 (by decide) (by decide)
  have e36 : X.2.2.1 36 = P.2.2.1 36 := a1 36 (by decide) (by decide)
  refine ⟨⟨z, ht.of (a1 7 (by decide) (by decide)) (a1 8 (by decide) (by decide)) (a1 9 (by decide) (by decide)), ⟨B1, o1, t1⟩, ?_, ⟨SIc_pin hs.1 x h15 hob, SIq_pin hs.2.1 x h15 h24 b hs.1.fm, SIl_pin hs.2.2.1 x, SIi_pin hs.2.2.2.1 x h15 h24 hs.1.fm, fun z => by rw [x.e27]; exact hs.2.2.2.2 (by rw [← x.e24]; exact z)⟩⟩, by rw [x.e24, x.e15, e23]; exact h24, ?_⟩
  · unfold cb ci at *
    rw [x.e15, x.e18, x.e24, x.e27, x.e37, e23, e17, e36]
    have := x.lt
    refine ⟨⟨hci.1, by omega, hci.2.2.1, by omega, by omega⟩, h23, by omega, by omega, h17.2.2⟩
  · intro e p hp hp'
    rw [e17, x.e15] at hp
    by_cases q : p = P.1 18
    · subst q; rw [x.v19, e]
    · rw [x.fb 19 p (Or.inr q)]; exact hob e p hp (by rw [x.e18] at hp'; omega)
theorem pl_loop_p {ob : Bool} {f : Nat} (hz : P.1 13 = 0) : pl_loop tv nv ob (f + 1) P = if (pl_p tv nv ob (decide (P.1 18 - P.2.2.1 17 (P.1 15 - 1) < 8)) P).1 13 = 0 then (if sg tv (nI 44) (pl_p tv nv ob (decide (P.1 18 - P.2.2.1 17 (P.1 15 - 1) < 8)) P) = true then pl_loop tv nv ob f (sp_go (pl_p tv nv ob (decide (P.1 18 - P.2.2.1 17 (P.1 15 - 1) < 8)) P)) else sp_sign tv (nI 59) (pl_p tv nv ob (decide (P.1 18 - P.2.2.1 17 (P.1 15 - 1) < 8)) P)) else pl_p tv nv ob (decide (P.1 18 - P.2.2.1 17 (P.1 15 - 1) < 8)) P := by
  rw [pl_loop_s]
  by_cases k : P.2.2.1 7 (P.1 12) = 1
  · by_cases r : P.1 18 - P.2.2.1 17 (P.1 15 - 1) < 8
    · have e : pl_p tv nv ob (decide (P.1 18 - P.2.2.1 17 (P.1 15 - 1) < 8)) P = pl_one tv nv ob P := by unfold pl_p; rw [if_pos k, if_pos (decide_eq_true r)]
      rw [e, if_pos k, if_pos r]
    · have e : pl_p tv nv ob (decide (P.1 18 - P.2.2.1 17 (P.1 15 - 1) < 8)) P = sp_wrong 2 (P.1 12) P := by unfold pl_p; rw [if_pos k, if_neg (by simpa using r)]
      have z : ¬ (sp_wrong 2 (P.1 12) P).1 13 = 0 := by unfold sp_wrong; rw [if_neg (by omega)]; show ¬ (2 : Nat) = 0; decide
      rw [e, if_pos k, if_neg r, if_neg z]
  · have e : pl_p tv nv ob (decide (P.1 18 - P.2.2.1 17 (P.1 15 - 1) < 8)) P = sp_syntax P := by unfold pl_p; rw [if_neg k]
    have z : ¬ (sp_syntax P).1 13 = 0 := by rw [(syn_z hz).1]; split <;> decide
    rw [e, if_neg k, if_neg z]
theorem z12_p {ob y : Bool} : P.1 12 ≤ (pl_p tv nv ob y P).1 12 := by
  unfold pl_p
  split
  · split
    · exact z12_one
    · rw [zk_wrong (by decide) (by decide)]; exact Nat.le_refl _
  · exact z12_syntax P
/-- what parsePin does, seen from the reference -/
theorem pin_step {ob : Bool} {u : (Nat × Value × Value) × List Nat × PG} (B : PBd ft tv nv T fk pp nn fh fl P) (hR : RX t0 qc qna qdf ft tv fh fl pp nn m G ad tg P) (hm : m + 1 ≤ P.1 15) (h24 : P.1 24 = P.2.2.1 23 (P.1 15 - 1)) (hob : ob = false → ∀ p, P.2.2.1 17 (P.1 15 - 1) ≤ p → p < P.1 18 → P.2.2.2.2 19 p = false)
    (hu : u.1 = (ppn fk pp (decide ((rga (ad 5) (P.2.2.1 17 (P.1 15 - 1)) (P.1 18)).length < 8)) (P.1 12) v0 v1).2.1) (hfr : gL u.2.1 u.2.2 ∧ LFa G u.2.2 (ad 2 (P.1 15 - 1)) (ad 0 (P.1 15 - 1)) ∧ u.2.2.1 (ad 0 (P.1 15 - 1)) = 6 ∧ u.2.2.1 (ad 2 (P.1 15 - 1)) = 7)
    (hp : (ppn fk pp (decide ((rga (ad 5) (P.2.2.1 17 (P.1 15 - 1)) (P.1 18)).length < 8)) (P.1 12) v0 v1).1 = true → ∃ w nm, G.1 w = 0 ∧ G.1 nm = 0 ∧ isN u.2.2 nm (fh (P.1 12)) (fl (P.1 12)) (some (pp (P.1 12))) ∧ isV u.2.2 w nm (if ob = true then 1 else 0) (pwd nn pp (ppn fk pp (decide ((rga (ad 5) (P.2.2.1 17 (P.1 15 - 1)) (P.1 18)).length < 8)) (P.1 12) v0 v1).2.2).1 (pwd nn pp (ppn fk pp (decide ((rga (ad 5) (P.2.2.1 17 (P.1 15 - 1)) (P.1 18)).length < 8)) (P.1 12) v0 v1).2.2).2 ∧ LSx t0 u.2.2 (ad 2 (P.1 15 - 1)) (rga (ad 5) (P.2.2.1 17 (P.1 15 - 1)) (P.1 18) ++ [w]) ∧ gL u.2.1 u.2.2 ∧ LFa G u.2.2 (ad 2 (P.1 15 - 1)) (ad 0 (P.1 15 - 1)) ∧ gs (if (if ob = true then 1 else 0) = 0 then gN G (ad 0 (P.1 15 - 1)) 6 (G.2.1 (ad 0 (P.1 15 - 1)) 6 + 1) else G) u.2.2 (ad 0 (P.1 15 - 1))) :
    ((pl_p tv nv ob (decide (P.1 18 - P.2.2.1 17 (P.1 15 - 1) < 8)) P).1 13 = 0 ∧ (ppn fk pp (decide ((rga (ad 5) (P.2.2.1 17 (P.1 15 - 1)) (P.1 18)).length < 8)) (P.1 12) v0 v1).1 = true ∧ u.1 = ((pl_p tv nv ob (decide (P.1 18 - P.2.2.1 17 (P.1 15 - 1) < 8)) P).1 12, v0, v1) ∧ gL u.2.1 u.2.2 ∧ REP t0 qc qna qdf ft tv fh fl pp nn m u.2.2 (pl_p tv nv ob (decide (P.1 18 - P.2.2.1 17 (P.1 15 - 1) < 8)) P) (ad 0 (P.1 15 - 1)) ∧ PBd ft tv nv T fk pp nn fh fl (pl_p tv nv ob (decide (P.1 18 - P.2.2.1 17 (P.1 15 - 1) < 8)) P) ∧ P.1 12 < (pl_p tv nv ob (decide (P.1 18 - P.2.2.1 17 (P.1 15 - 1) < 8)) P).1 12 ∧ ((pl_p tv nv ob (decide (P.1 18 - P.2.2.1 17 (P.1 15 - 1) < 8)) P).1 24 = (pl_p tv nv ob (decide (P.1 18 - P.2.2.1 17 (P.1 15 - 1) < 8)) P).2.2.1 23 ((pl_p tv nv ob (decide (P.1 18 - P.2.2.1 17 (P.1 15 - 1) < 8)) P).1 15 - 1)) ∧ (ob = false → ∀ p, (pl_p tv nv ob (decide (P.1 18 - P.2.2.1 17 (P.1 15 - 1) < 8)) P).2.2.1 17 ((pl_p tv nv ob (decide (P.1 18 - P.2.2.1 17 (P.1 15 - 1) < 8)) P).1 15 - 1) ≤ p → p < (pl_p tv nv ob (decide (P.1 18 - P.2.2.1 17 (P.1 15 - 1) < 8)) P).1 18 → (pl_p tv nv ob (decide (P.1 18 - P.2.2.1 17 (P.1 15 - 1) < 8)) P).2.2.2.2 19 p = false) ∧ (pl_p tv nv ob (decide (P.1 18 - P.2.2.1 17 (P.1 15 - 1) < 8)) P).1 15 = P.1 15 ∧ (pl_p tv nv ob (decide (P.1 18 - P.2.2.1 17 (P.1 15 - 1) < 8)) P).1 18 - (pl_p tv nv ob (decide (P.1 18 - P.2.2.1 17 (P.1 15 - 1) < 8)) P).2.2.1 17 ((pl_p tv nv ob (decide (P.1 18 - P.2.2.1 17 (P.1 15 - 1) < 8)) P).1 15 - 1) = P.1 18 - P.2.2.1 17 (P.1 15 - 1) + 1) ∨
    (¬ (pl_p tv nv ob (decide (P.1 18 - P.2.2.1 17 (P.1 15 - 1) < 8)) P).1 13 = 0 ∧ (ppn fk pp (decide ((rga (ad 5) (P.2.2.1 17 (P.1 15 - 1)) (P.1 18)).length < 8)) (P.1 12) v0 v1).1 = false ∧ u.1.2 = ftv (pl_p tv nv ob (decide (P.1 18 - P.2.2.1 17 (P.1 15 - 1) < 8)) P) ∧ gL u.2.1 u.2.2 ∧ RB t0 qc qna qdf u.2.2) := by
  rw [rga_len] at hu hp ⊢
  have h15 := B.h15
  have hc : P.1 15 - 1 < P.1 15 := by omega
  obtain ⟨c1, c2⟩ := ppn_cmp (v0 := v0) (v1 := v1) B.2.1 B.1 B.le ob (decide (P.1 18 - P.2.2.1 17 (P.1 15 - 1) < 8))
  by_cases z : (pl_p tv nv ob (decide (P.1 18 - P.2.2.1 17 (P.1 15 - 1) < 8)) P).1 13 = 0
  · obtain ⟨⟨k1, k2⟩, e22, l12⟩ := c2 z
    have k2 : P.1 18 - P.2.2.1 17 (P.1 15 - 1) < 8 := of_decide_eq_true k2
    have t := c1.t z
    obtain ⟨w, nm, w0, n0, iN, iV, hl, -, hfa, hgs⟩ := hp t.1
    rw [e22] at iV
    have ez : pl_p tv nv ob (decide (P.1 18 - P.2.2.1 17 (P.1 15 - 1) < 8)) P = pl_one tv nv ob P := by unfold pl_p; rw [if_pos k1, if_pos (decide_eq_true k2)]
    rw [ez] at z iV t ⊢
    have x := pl_pis B.1 k1 z
    obtain ⟨BZ, b1, b2⟩ := B.pin k1 k2 z h24 hob
    have hw21 : (pwd nn pp ((pl_one tv nv ob P).2.2.2.1 22 (P.1 18))).1 = (pl_one tv nv ob P).2.2.1 21 (P.1 18) := by
      rcases x.v22 with ⟨q1, q2⟩ | ⟨t, q1, q2, q3, q4, q5⟩
      · rw [q1, q2]; rfl
      · rw [q1, q5]
        have tl : t ≤ T := Nat.le_trans (Nat.le_of_lt q3) BZ.le
        have : nn t = nv t := by
          rcases (B.2.1.2.2.2 t tl).2 with r | r | r | r | r | r | r | r
          · omega
          · omega
          · exact r.2.2
          · omega
          · omega
          · have := r.1; omega
          · omega
          · omega
        show (if nn t < 1 ∨ 16 < nn t then ((1 : Nat), some (pp t)) else (nn t, none)).1 = pl_wd (nv t)
        unfold pl_wd
        rw [this]
        split <;> rfl
    rw [hw21] at iV
    obtain ⟨ad', tg', hX, hcX⟩ := RX.pin (ob := ob) hR B.2.2.2.2.1 B.2.2.2.2.2.1 B.2.2.2.2.2.2.2.1 x h15.1 hm (frh0 w0) (frh0 n0) iN iV hl hfa (by
      cases ob
      · exact hgs
      · exact hgs)
    refine Or.inl ⟨z, t.1, by rw [hu]; exact t.2, hfr.1, ⟨ad', tg', hX, hcX⟩, BZ, x.lt, b1, b2, x.e15, ?_⟩
    have := (B.2.2.2.2.1.fm (P.1 15 - 1) (P.1 15 - 1) (Nat.le_refl _) hc).2
    rw [x.e15, x.e18, show (pl_one tv nv ob P).2.2.1 17 (P.1 15 - 1) = P.2.2.1 17 (P.1 15 - 1) from x.fr 17 _ (Or.inl (by decide))]
    omega
  · have t := c1.f z
    refine Or.inr ⟨z, t.1, by rw [hu]; exact t.2, hfr.1, ?_⟩
    have kc : G.1 (ad 0 (P.1 15 - 1)) = 6 := (hR.1 0 _ hc).1
    have kl : G.1 (ad 2 (P.1 15 - 1)) = 7 := (hR.1 2 _ hc).1
    have hf := LFs_LFa hfr.2.1 kl hfr.2.2.2 (by rw [hfr.2.2.1, kc])
    have hS : ∀ b, (fun b => b = ad 2 (P.1 15 - 1) ∨ b = ad 0 (P.1 15 - 1)) b → G.1 b = 6 ∨ G.1 b = 7 := fun b q => by rcases q with q | q <;> rw [q] <;> omega
    have nS : ∀ k j, j < cno P k → ¬ (k = 2 ∧ j = P.1 15 - 1) → ¬ (k = 0 ∧ j = P.1 15 - 1) → ¬ (ad k j = ad 2 (P.1 15 - 1) ∨ ad k j = ad 0 (P.1 15 - 1)) := fun k j a b d q => by
      rcases q with q | q
      · exact hR.1.ne a (show P.1 15 - 1 < cno P 2 from hc) b q
      · exact hR.1.ne a (show P.1 15 - 1 < cno P 0 from hc) d q
    refine hR.rb hf hS (fun k j a => Or.inr (nS k j (Nat.lt_of_lt_of_le a (cnz_le P k)) (fun q => by rw [q.1] at a; exact absurd a (Nat.not_lt_zero _)) (fun q => by rw [q.1] at a; exact absurd a (Nat.not_lt_zero _)))) (ys := rga (ad 0) 0 (P.1 15)) ?_ (by rw [rga_len]; omega)
    rw [← hR.2.1.1]
    exact LSx_fs hR.2.2.2.1 hf (fun b a q => by have := hS b q; omega) (nS 24 0 (show 0 < 1 by decide) (by omega) (by omega))
end PBD
theorem rm_eq (A B : Option Nat) (f g : Nat → Nat) (z : Nat) : ((A.map f).isSome || ((B.map g).isSome || decide (z < 30))) = decide (¬ (A = none ∧ B = none) ∨ z < 30) := by cases A <;> cases B <;> simp
theorem find_m {ft : Nat → Int32} {ta ts : Nat → Nat} {at_ f : Nat → Nat} {p : Nat → Bool} {t e : Nat} : ∀ (n a : Nat), n = e - a → (∀ j, a ≤ j → j < e → p (f j) = m_like ft ta ts (at_ j) t) → (rga f a e).find? p = (m_find ft ta ts at_ t n a).map f
  | 0, a, hn, _ => by rw [rga_nil (by omega)]; rfl
  | n + 1, a, hn, h => by
    rw [rga_cons (by omega), List.find?_cons, h a (Nat.le_refl _) (by omega)]
    show _ = (if m_like ft ta ts (at_ a) t = true then some a else m_find ft ta ts at_ t n (a + 1)).map f
    by_cases q : m_like ft ta ts (at_ a) t = true
    · rw [q, if_pos rfl]; rfl
    · rw [if_neg q, Bool.eq_false_iff.mpr q]
      exact find_m n (a + 1) (by omega) (fun j a b => h j (by omega) b)
section LKS
variable {t0 qc qna qdf m : Nat} {ft tv : Nat → Int32} {nv : Nat → Nat} {T : Nat} {fk : Nat → Int32} {pp nn : Nat → Nat} {fh fl : Nat → Int64} {G G' : PG} {ad : Nat → Nat → Nat} {tg : Nat → Nat × Nat} {P X : PS} {v0 v1 : Value} {c0 : Nat} {A : Nat → Nat → Nat}
theorem tke.k1 {a : Nat} (h : tke ft tv nv T A fk pp nn fh fl) (ha : a ≤ T) (k : A 7 a = 1) : wbs ft (A 8 a) (A 9 a) ∧ (1 ≤ A 9 a ∧ A 9 a ≤ 16) ∧ fh a = wh (wd ft (A 8 a) (A 9 a)) ∧ fl a = wt (wd ft (A 8 a) (A 9 a)) := by
  rcases (h.2.2.2 a ha).2 with r | r | r | r | r | r | r | r
  · omega
  · exact r.2.2
  · omega
  · omega
  · omega
  · have := r.1; omega
  · omega
  · omega
theorem nm_like {t u : Nat} (h : tke ft tv nv T A fk pp nn fh fl) (ht : t ≤ T) (hu : u ≤ T) (kt : A 7 t = 1) (ku : A 7 u = 1) : (decide (fh t = fh u) && decide (fl t = fl u)) = m_like ft (A 8) (A 9) t u := by
  obtain ⟨a1, a2, a3, a4⟩ := h.k1 ht kt
  obtain ⟨b1, b2, b3, b4⟩ := h.k1 hu ku
  have w := m_like_wd (ta := A 8) (ts := A 9) (t := t) (u := u) a1 b1
  by_cases q : m_like ft (A 8) (A 9) t u = true
  · have e := w.mp q
    rw [q, a3, a4, b3, b4, e]; simp
  · rw [Bool.eq_false_iff.mpr q]
    have ne : ¬ wd ft (A 8 t) (A 9 t) = wd ft (A 8 u) (A 9 u) := fun e => q (w.mpr e)
    rw [a3, a4, b3, b4]
    by_cases q1 : wh (wd ft (A 8 t) (A 9 t)) = wh (wd ft (A 8 u) (A 9 u))
    · have q2 : ¬ wt (wd ft (A 8 t) (A 9 t)) = wt (wd ft (A 8 u) (A 9 u)) := fun q2 => ne (wh_inj (wbs_nb _ _ a1) (wbs_nb _ _ b1) (by rw [wd_len]; exact a2.2) (by rw [wd_len]; exact b2.2) q1 q2)
      simp [q2]
    · simp [q1]
theorem ftk_like {x nm t b : Nat} (h : tke ft tv nv T A fk pp nn fh fl) (hx : G.2.2.2.2.2 x 0 = some nm) (hn : isT fh fl pp G nm t) (ht : t ≤ T) (hb : b ≤ T) (kt : A 7 t = 1) (kb : A 7 b = 1) : ftk G (fh b) (fl b) x = m_like ft (A 8) (A 9) t b := by
  unfold ftk
  rw [hx, ← nm_like h ht hb kt kb]
  show (decide _ && decide _) = _
  rw [hn.2.1, hn.2.2.1]
theorem z12_link {ft tv : Nat → Int32} {nv : Nat → Nat} {P : PS} : P.1 12 ≤ (sp_link ft tv nv P).1 12 := by
  have h1 : P.1 12 ≤ (sp_name P).1 12 := z12_name P
  have h3 : (sp_name P).1 12 ≤ (lk3 tv nv P).1 12 := z12_range tv nv (lk2 P)
  have h5 : (lk3 tv nv P).1 12 ≤ (lk5 tv nv P).1 12 := z12_sign tv _ (lk4 (lk3 tv nv P))
  unfold sp_link
  split
  · exact h1
  · split
    · omega
    · have hQ : (lk6 (lk5 tv nv P)).1 12 = (lk5 tv nv P).1 12 := rfl
      unfold lk_rt
      generalize lk6 (lk5 tv nv P) = Q at *
      split
      · have := z12_go Q
        show P.1 12 ≤ (sp_go Q).1 12
        omega
      · split
        · have hR : (lkr Q).1 12 = Q.1 12 := rfl
          unfold lk_nm
          generalize lkr Q = R at *
          have f : ∀ Y : PS, Y.1 12 = R.1 12 → P.1 12 ≤ (lk_end (lk10 (lk9 tv nv Y))).1 12 := fun Y e => by
            have a := z12_go Y
            have b := z12_range tv nv (sp_go Y)
            show P.1 12 ≤ (sp_range tv nv (sp_go Y)).1 12
            omega
          have r7 : (lk7 R).1 12 = R.1 12 := by
            unfold lk7 sp_room; split
            · rfl
            · exact zk_wrong (by decide) (by decide)
          split
          · split
            · omega
            · exact f _ r7
          · exact f _ rfl
        · have := z12_syntax Q
          show P.1 12 ≤ (sp_syntax Q).1 12
          omega
theorem z12_pt {ft tv : Nat → Int32} {nv : Nat → Nat} : ∀ (k : Nat) (P : PS), P.1 12 ≤ (pt_loop ft tv nv k P).1 12
  | 0, P => Nat.le_refl _
  | k + 1, P => by
    rw [pt_loop_s]
    split
    · have h := z12_link (ft := ft) (tv := tv) (nv := nv) (P := P)
      split
      · have a := z12_go (sp_link ft tv nv P)
        have b := z12_pt (ft := ft) (tv := tv) (nv := nv) k (sp_go (sp_link ft tv nv P))
        omega
      · exact h
    · exact Nat.le_refl _
theorem PBd.link (B : PBd ft tv nv T fk pp nn fh fl P) (hcq : P.2.2.1 23 (P.1 15 - 1) < P.1 24) (z : (sp_link ft tv nv P).1 13 = 0) : PBd ft tv nv T fk pp nn fh fl (sp_link ft tv nv P) ∧ lks ft tv P (sp_link ft tv nv P) := by
  obtain ⟨hz, ht, ⟨hA, ho, hv⟩, ⟨hci, h23, h17⟩, hs⟩ := B
  have x := link_spec ho hv hA hci z
  obtain ⟨b18, b37⟩ := ci_b hci
  obtain ⟨B1, o1, t1, zk, ak⟩ := link_keep (ft := ft) ho hv hA b18 b37
  have c1 := link_ci ho hv hci z
  have x17 := fun k j hk hj => link_17 (ft := ft) (tv := tv) (nv := nv) (P := P) (k := k) (j := j) hk hj
  have ar : ∀ k, k = 7 ∨ k = 8 ∨ k = 9 ∨ k = 23 → (sp_link ft tv nv P).2.2.1 k = P.2.2.1 k := fun k hk => ak k (by omega) (by omega) (by omega) (by omega) (by omega) (by omega) (by omega) (by omega) (by omega)
  have e15 := zk 15 (by decide) (by decide) (by decide) (by decide) (by decide) (by decide) (by decide)
  have e18 := zk 18 (by decide) (by decide) (by decide) (by decide) (by decide) (by decide) (by decide)
  have e24 := zk 24 (by decide) (by decide) (by decide) (by decide) (by decide) (by decide) (by decide)
  have h15 := hci.1
  have j17 := x17 17 (P.1 15 - 1) (Or.inl rfl) (by omega)
  refine ⟨⟨z, ht.of (ar 7 (by omega)) (ar 8 (by omega)) (ar 9 (by omega)), ⟨B1, o1, t1⟩, ⟨c1, ?_, ?_⟩, ⟨SIc_link hs.1 x, SIq_link hs.2.1 x, SIl_link hs.2.1 hs.2.2.1 x (by omega) ⟨h15.1, hcq⟩, SIi_link hs.1 hs.2.1 hs.2.2.1 hs.2.2.2.1 x ⟨h15.1, hcq⟩, fun q => by rw [e24] at q; omega⟩⟩, x⟩
  · rw [e15, e24, ar 23 (by omega)]; exact h23
  · rw [e15, e18, j17]; exact h17
/-- what parseLink does, seen from the reference -/
theorem link_step {u : (Nat × Value × Value) × List Nat × PG} {b : Nat} (B : PBd ft tv nv T fk pp nn fh fl P) (hR : RX t0 qc qna qdf ft tv fh fl pp nn m G ad tg P) (hm : m = P.1 15) (hcq : P.2.2.1 23 (P.1 15 - 1) < P.1 24) (hb : (prc fk pp (P.1 12 + 1) v0 v1).2.1 + 1 = b) {rm : Bool} (hrm : rm = (((rga (ad 5) (P.2.2.1 17 (P.1 15 - 1)) (P.1 18)).find? (ftk G (fh b) (fl b))).isSome || (((rga (ad 7) (P.2.2.1 36 (P.1 15 - 1)) (P.1 37)).find? (ftk G (fh b) (fl b))).isSome || decide ((rga (ad 7) (P.2.2.1 36 (P.1 15 - 1)) (P.1 37)).length < 30))))
    (hu : u.1 = (plk fk pp rm (P.1 12) v0 v1).2) (hfr : gL u.2.1 u.2.2 ∧ LFs G u.2.2 (fun b => b = ad 11 (P.1 24 - 1) ∨ b = ad 3 (P.1 15 - 1)))
    (hp : (plk fk pp rm (P.1 12) v0 v1).1 = true → ∃ k1 s1 n1 s2 n2 wo, (frh G k1 ∧ frh G s1 ∧ frh G n1 ∧ frh G s2 ∧ frh G n2 ∧ s1 ≠ s2 ∧ n1 ≠ n2) ∧ isK u.2.2 k1 s1 s2 none wo ∧ isS u.2.2 s1 n1 none (prt fk pp nn (P.1 12 + 1)).1 (prt fk pp nn (P.1 12 + 1)).2.1 (prt fk pp nn (P.1 12 + 1)).2.2 ∧ isN u.2.2 n1 (fh (P.1 12)) (fl (P.1 12)) (some (pp (P.1 12))) ∧ isN u.2.2 n2 (fh b) (fl b) (some (pp b)) ∧ LSx t0 u.2.2 (ad 11 (P.1 24 - 1)) (rga (ad 12) (P.2.2.1 26 (P.1 24 - 1)) (P.1 27) ++ [k1]) ∧ (((fk b = nI 10 ∨ fk b = nI 11) ∧ isS u.2.2 s2 n2 (some (if fk b = nI 10 then 1 else 0)) none 0 0 ∧ wo = none ∧ LSx t0 u.2.2 (ad 3 (P.1 15 - 1)) (rga (ad 7) (P.2.2.1 36 (P.1 15 - 1)) (P.1 37))) ∨ (¬ (fk b = nI 10 ∨ fk b = nI 11) ∧ isS u.2.2 s2 n2 none (prt fk pp nn (b + 1)).1 (prt fk pp nn (b + 1)).2.1 (prt fk pp nn (b + 1)).2.2 ∧ ((∃ x, ((rga (ad 5) (P.2.2.1 17 (P.1 15 - 1)) (P.1 18)).find? (ftk G (fh b) (fl b)) = some x ∨ ((rga (ad 5) (P.2.2.1 17 (P.1 15 - 1)) (P.1 18)).find? (ftk G (fh b) (fl b)) = none ∧ (rga (ad 7) (P.2.2.1 36 (P.1 15 - 1)) (P.1 37)).find? (ftk G (fh b) (fl b)) = some x)) ∧ wo = some x ∧ LSx t0 u.2.2 (ad 3 (P.1 15 - 1)) (rga (ad 7) (P.2.2.1 36 (P.1 15 - 1)) (P.1 37))) ∨ ((rga (ad 5) (P.2.2.1 17 (P.1 15 - 1)) (P.1 18)).find? (ftk G (fh b) (fl b)) = none ∧ (rga (ad 7) (P.2.2.1 36 (P.1 15 - 1)) (P.1 37)).find? (ftk G (fh b) (fl b)) = none ∧ ∃ w, frh G w ∧ isW u.2.2 w n2 2 ∧ wo = some w ∧ LSx t0 u.2.2 (ad 3 (P.1 15 - 1)) (rga (ad 7) (P.2.2.1 36 (P.1 15 - 1)) (P.1 37) ++ [w])))))) :
    ((sp_link ft tv nv P).1 13 = 0 ∧ (plk fk pp rm (P.1 12) v0 v1).1 = true ∧ u.1 = ((sp_link ft tv nv P).1 12, v0, v1) ∧ (∃ ad' tg', RX t0 qc qna qdf ft tv fh fl pp nn m u.2.2 ad' tg' (sp_link ft tv nv P) ∧ ad' 0 ((sp_link ft tv nv P).1 15 - 1) = ad 0 (P.1 15 - 1) ∧ ad' 9 ((sp_link ft tv nv P).1 24 - 1) = ad 9 (P.1 24 - 1)) ∧ PBd ft tv nv T fk pp nn fh fl (sp_link ft tv nv P) ∧ P.1 12 + 3 ≤ (sp_link ft tv nv P).1 12 ∧ (sp_link ft tv nv P).1 15 = P.1 15 ∧ (sp_link ft tv nv P).2.2.1 23 ((sp_link ft tv nv P).1 15 - 1) < (sp_link ft tv nv P).1 24) ∨
    (¬ (sp_link ft tv nv P).1 13 = 0 ∧ (plk fk pp rm (P.1 12) v0 v1).1 = false ∧ u.1.2 = ftv (sp_link ft tv nv P) ∧ RB t0 qc qna qdf u.2.2) := by
  have h15 := B.h15
  have hc : P.1 15 - 1 < P.1 15 := by omega
  have hci := B.2.2.2.1.1
  have hs := B.2.2.2.2
  have wlP := B.2.2.1
  -- the finds of both sides
  have key : (lk5 tv nv P).1 13 = 0 → (lk6 (lk5 tv nv P)).2.2.1 7 ((lk6 (lk5 tv nv P)).1 12) = 1 → (lk6 (lk5 tv nv P)).1 12 = b → b ≤ T → (rga (ad 5) (P.2.2.1 17 (P.1 15 - 1)) (P.1 18)).find? (ftk G (fh b) (fl b)) = (lk_pf ft (lkr (lk6 (lk5 tv nv P)))).map (ad 5) ∧ (rga (ad 7) (P.2.2.1 36 (P.1 15 - 1)) (P.1 37)).find? (ftk G (fh b) (fl b)) = (lk_if ft (lkr (lk6 (lk5 tv nv P)))).map (ad 7) ∧ ((rga (ad 7) (P.2.2.1 36 (P.1 15 - 1)) (P.1 37)).length < 30 ↔ (lkr (lk6 (lk5 tv nv P))).1 37 - (lkr (lk6 (lk5 tv nv P))).2.2.1 36 ((lkr (lk6 (lk5 tv nv P))).1 15 - 1) < 30) ∧ lk_pf ft (lkr (lk6 (lk5 tv nv P))) = m_find ft (P.2.2.1 8) (P.2.2.1 9) (P.2.2.1 20) b (P.1 18 - P.2.2.1 17 (P.1 15 - 1)) (P.2.2.1 17 (P.1 15 - 1)) ∧ lk_if ft (lkr (lk6 (lk5 tv nv P))) = m_find ft (P.2.2.1 8) (P.2.2.1 9) (P.2.2.1 38) b (P.1 37 - P.2.2.1 36 (P.1 15 - 1)) (P.2.2.1 36 (P.1 15 - 1)) := by
    intro z5 k7 e12 lb
    have zn : (sp_name P).1 13 = 0 := by
      by_cases q : (sp_name P).1 13 = 0
      · exact q
      · exfalso
        have d5 : lk5 tv nv P = sp_sign tv (nI 61) (lk4 (lk3 tv nv P)) := rfl
        have f4 : (lk3 tv nv P).1 13 = 0 := (f_sign (show (sp_sign tv (nI 61) (lk4 (lk3 tv nv P))).1 13 = 0 from z5)).1
        have f2 := (range_spec (P := lk2 P) f4).1
        exact q f2
    obtain ⟨p13, pk, v28, va, vo, vb, vlr, vl0, v12⟩ := lk5_spec zn z5
    have z5k : ∀ k, k ≠ 12 → k ≠ 13 → k ≠ 14 → k ≠ 42 → k ≠ 43 → (lk5 tv nv P).1 k = P.1 k := fun k a b c d e => zk_lk5 a b c d e
    have e15 : (lkr (lk6 (lk5 tv nv P))).1 15 = P.1 15 := z5k 15 (by decide) (by decide) (by decide) (by decide) (by decide)
    have e18 : (lk6 (lk5 tv nv P)).1 18 = P.1 18 := z5k 18 (by decide) (by decide) (by decide) (by decide) (by decide)
    have e37 : (lk6 (lk5 tv nv P)).1 37 = P.1 37 := z5k 37 (by decide) (by decide) (by decide) (by decide) (by decide)
    have e15' : (lk6 (lk5 tv nv P)).1 15 = P.1 15 := e15
    have r6 : ∀ k, k ≠ 28 → k ≠ 30 → k ≠ 31 → k ≠ 32 → (lk6 (lk5 tv nv P)).2.2.1 k = P.2.2.1 k := fun k a b c d => by
      show (if k = 32 then _ else (lk5 tv nv P).2.2.1 k) = _
      rw [if_neg d]; funext j; exact va k j (Or.inl ⟨a, b, c⟩)
    have rr : ∀ k, k ≠ 17 → k ≠ 36 → (lkr (lk6 (lk5 tv nv P))).2.2.1 k = (lk6 (lk5 tv nv P)).2.2.1 k := fun k a b => by show (if k = 36 then _ else (if k = 17 then _ else _)) = _; rw [if_neg b, if_neg a]
    have r17 : ∀ j, (lkr (lk6 (lk5 tv nv P))).2.2.1 17 j = if j = P.1 15 then P.1 18 else P.2.2.1 17 j := fun j => by
      show (if j = (lk6 (lk5 tv nv P)).1 15 then (lk6 (lk5 tv nv P)).1 18 else (lk6 (lk5 tv nv P)).2.2.1 17 j) = _
      rw [e15', e18, r6 17 (by decide) (by decide) (by decide) (by decide)]
    have r36 : ∀ j, (lkr (lk6 (lk5 tv nv P))).2.2.1 36 j = if j = P.1 15 then P.1 37 else P.2.2.1 36 j := fun j => by
      show (if j = (lk6 (lk5 tv nv P)).1 15 then (lk6 (lk5 tv nv P)).1 37 else (lk6 (lk5 tv nv P)).2.2.1 36 j) = _
      rw [e15', e37, r6 36 (by decide) (by decide) (by decide) (by decide)]
    have er12 : (lkr (lk6 (lk5 tv nv P))).1 12 = b := e12
    have kb : P.2.2.1 7 b = 1 := by rw [← r6 7 (by decide) (by decide) (by decide) (by decide), ← e12]; exact k7
    have epf : lk_pf ft (lkr (lk6 (lk5 tv nv P))) = m_find ft (P.2.2.1 8) (P.2.2.1 9) (P.2.2.1 20) b (P.1 18 - P.2.2.1 17 (P.1 15 - 1)) (P.2.2.1 17 (P.1 15 - 1)) := by
      unfold lk_pf
      rw [er12, e15, show P.1 15 - 1 + 1 = P.1 15 by omega, r17, r17, if_pos rfl, if_neg (by omega), rr 8 (by decide) (by decide), rr 9 (by decide) (by decide), rr 20 (by decide) (by decide), r6 8 (by decide) (by decide) (by decide) (by decide), r6 9 (by decide) (by decide) (by decide) (by decide), r6 20 (by decide) (by decide) (by decide) (by decide)]
    have eif : lk_if ft (lkr (lk6 (lk5 tv nv P))) = m_find ft (P.2.2.1 8) (P.2.2.1 9) (P.2.2.1 38) b (P.1 37 - P.2.2.1 36 (P.1 15 - 1)) (P.2.2.1 36 (P.1 15 - 1)) := by
      unfold lk_if
      rw [er12, e15, show P.1 15 - 1 + 1 = P.1 15 by omega, r36, r36, if_pos rfl, if_neg (by omega), rr 8 (by decide) (by decide), rr 9 (by decide) (by decide), rr 38 (by decide) (by decide), r6 8 (by decide) (by decide) (by decide) (by decide), r6 9 (by decide) (by decide) (by decide) (by decide), r6 38 (by decide) (by decide) (by decide) (by decide)]
    refine ⟨?_, ?_, ?_, epf, eif⟩
    · rw [epf]
      refine find_m _ _ rfl (fun j a b' => ?_)
      have q := hR.2.2.2.2.2.1 j b'
      have s := hs.1.pk j b'
      exact ftk_like B.2.1 q.1.2.1 q.2 (Nat.le_trans (Nat.le_of_lt s.2.1) B.le) lb s.1 kb
    · rw [eif]
      refine find_m _ _ rfl (fun j a b' => ?_)
      have q := hR.2.2.2.2.2.2.1 j b'
      have s := hs.2.2.2.1.ik j b'
      exact ftk_like B.2.1 q.1.2.1 q.2 (Nat.le_trans (Nat.le_of_lt s.2) B.le) lb s.1 kb
    · rw [rga_len, e15, r36, if_neg (by omega), show (lkr (lk6 (lk5 tv nv P))).1 37 = P.1 37 from e37]
  -- where the right side stands
  have e12b : (lk5 tv nv P).1 13 = 0 → (lk6 (lk5 tv nv P)).1 12 = b ∧ b ≤ T := by
    intro z5
    have d5 : lk5 tv nv P = sp_sign tv (nI 61) (lk4 (lk3 tv nv P)) := rfl
    have z3 : (lk3 tv nv P).1 13 = 0 := (f_sign (show (sp_sign tv (nI 61) (lk4 (lk3 tv nv P))).1 13 = 0 from z5)).1
    have zn := (range_spec (P := lk2 P) z3).1
    have zn : (sp_name P).1 13 = 0 := zn
    have fn := f_name zn
    have d2 : lk2 P = ars (sp_go P) 28 ((sp_go P).1 27) ((sp_go P).1 12 - 1) := by unfold lk2; rw [show sp_name P = sp_go P from if_pos fn.2.1]
    have r2 : ∀ k, k ≠ 28 → (lk2 P).2.2.1 k = P.2.2.1 k := fun k hk => by rw [d2]; show (if k = 28 then _ else P.2.2.1 k) = _; rw [if_neg hk]
    have h2 : tke ft tv nv T (lk2 P).2.2.1 fk pp nn fh fl := B.2.1.of (r2 7 (by decide)) (r2 8 (by decide)) (r2 9 (by decide))
    have e2 : (lk2 P).1 12 = P.1 12 + 1 := by rw [d2]; exact go12 B.1
    have z2 : (lk2 P).1 13 = 0 := by rw [d2]; exact B.1
    have l1 := (B.2.1.lt B.le (by have := fn.2.1; omega)).2
    have f3 := prg_cmp (v0 := v0) (v1 := v1) h2 z2 (by omega) 0 (fun _ => 0, fun _ _ => 0, fun _ _ => none, fun _ _ => false, fun _ _ => 0, fun _ _ => none)
    rw [prg_c.1, prg_c.2, e2] at f3
    have t3 := (f3.1.t z3).2
    have f2 := f_sign (show (sp_sign tv (nI 61) (lk4 (lk3 tv nv P))).1 13 = 0 from z5)
    have e5 : (lk5 tv nv P).1 12 = (lk3 tv nv P).1 12 + 1 := by rw [d5, f2.2.2]; exact go12 (P := lk4 (lk3 tv nv P)) z3
    have eb : (prc fk pp (P.1 12 + 1) v0 v1).2.1 = (lk3 tv nv P).1 12 := by rw [t3]; rfl
    refine ⟨?_, ?_⟩
    · show (lk5 tv nv P).1 12 = b
      rw [e5, ← hb, eb]
    · rw [← hb, eb, ← e5]
      exact (okp_sign (c := nI 61) (P := lk4 (lk3 tv nv P)) ⟨by show (lk3 tv nv P).1 13 ≤ 6; rw [z3]; decide, (f3.2 z3).2⟩ (by
        have a3 : (lk3 tv nv P).2.2 = (lk2 P).2.2 := ar_lk3
        refine tkv_congr wlP.2.2 ?_ ?_ ?_
        · show (lk3 tv nv P).2.2.1 7 = _; rw [a3]; exact r2 7 (by decide)
        · show (lk3 tv nv P).2.2.1 8 = _; rw [a3]; exact r2 8 (by decide)
        · show (lk3 tv nv P).2.2.1 9 = _; rw [a3]; exact r2 9 (by decide))).2
  obtain ⟨c1, c2⟩ := lk_cmp (ft := ft) (v0 := v0) (v1 := v1) B.2.1 B.1 B.le rm (fun z5 k7 => by
    obtain ⟨q1, q2⟩ := e12b z5
    obtain ⟨g1, g2, g3, g4, g5⟩ := key z5 k7 q1 q2
    rw [hrm, g1, g2, decide_eq_decide.mpr g3]
    exact rm_eq _ _ _ _ _)
  rw [hb] at c2
  by_cases z : (sp_link ft tv nv P).1 13 = 0
  · obtain ⟨d1, d2, d3, d4, d5, d6, d7⟩ := c2 z
    have t := c1.t z
    obtain ⟨BX, x⟩ := B.link hcq z
    obtain ⟨k1, s1, n1, s2, n2, wo, ⟨fk1, fs1, fn1, fs2, fn2, hs12, hn12⟩, iK, iS1, iN1, iN2, hl, hcase⟩ := hp t.1
    have l12 := link_12 z
    obtain ⟨f1, f2, f3, f4, f5, f6, f7⟩ := x.frame
    have x7 : (sp_link ft tv nv P).2.2.1 7 = P.2.2.1 7 := f5 7 (by unfold nl; decide)
    have x15 : (sp_link ft tv nv P).1 15 = P.1 15 := f7 15 (by unfold nz; decide)
    have x18 : (sp_link ft tv nv P).1 18 = P.1 18 := f7 18 (by unfold nz; decide)
    have x24 : (sp_link ft tv nv P).1 24 = P.1 24 := f7 24 (by unfold nz; decide)
    have x23 : (sp_link ft tv nv P).2.2.1 23 = P.2.2.1 23 := f5 23 (by unfold nl; decide)
    have d31 : ((sp_link ft tv nv P).2.2.2.1 29 (P.1 27)).map pp = (prt fk pp nn (P.1 12 + 1)).1 := by rw [← d3]
    have d32 : (sp_link ft tv nv P).2.2.1 30 (P.1 27) = (prt fk pp nn (P.1 12 + 1)).2.1 := by rw [← d3]
    have d33 : (sp_link ft tv nv P).2.2.1 31 (P.1 27) = (prt fk pp nn (P.1 12 + 1)).2.2 := by rw [← d3]
    have main : ∃ ad' tg', RX t0 qc qna qdf ft tv fh fl pp nn m u.2.2 ad' tg' (sp_link ft tv nv P) ∧ ad' 0 ((sp_link ft tv nv P).1 15 - 1) = ad 0 (P.1 15 - 1) ∧ ad' 9 ((sp_link ft tv nv P).1 24 - 1) = ad 9 (P.1 24 - 1) := by
      rcases d7 with ⟨e1, e2, e3, e4, e5⟩ | ⟨e1, e2, e3, e4⟩
      · rcases hcase with ⟨q1, q2, q3, q4⟩ | ⟨q1, -⟩
        · have kn : ¬ (sp_link ft tv nv P).2.2.1 7 ((sp_link ft tv nv P).2.2.1 32 (P.1 27)) = 1 := by rw [x7, d5, e1]; decide
          refine RX.link hR hs.1 hs.2.1 hs.2.2.1 hs.2.2.2.1 x h15.1 (by omega) hcq hm fk1 fs1 fn1 fs2 fn2 hs12 hn12 iK (by rw [d31, d32, d33]; exact iS1) (by rw [d4]; exact iN1) ?_ (by rw [d5]; exact iN2) hl hfr.2 (Or.inl ⟨e5, q4, ?_⟩) (fun r => absurd r (by rw [d5, e1]; decide))
          · unfold cst rl0
            rw [if_neg kn, if_neg kn, if_neg kn, e4, d5]
            have : (if tv b = nI 4 then 1 else 0) = (if fk b = nI 10 then 1 else 0) := by
              by_cases r : tv b = nI 4
              · rw [if_pos r, if_pos (e2.mp r)]
              · rw [if_neg r, if_neg (fun w => r (e2.mpr w))]
            rw [this]; exact q2
          · rw [q3]; unfold wro; rw [if_neg kn]
        · exact absurd e3 q1
      · rcases hcase with ⟨q1, -⟩ | ⟨q1, q2, q3⟩
        · exact absurd q1 e2
        · have kn : (sp_link ft tv nv P).2.2.1 7 ((sp_link ft tv nv P).2.2.1 32 (P.1 27)) = 1 := by rw [x7, d5]; exact e1
          have d41 : ((sp_link ft tv nv P).2.2.2.1 33 (P.1 27)).map pp = (prt fk pp nn (b + 1)).1 := by rw [← e4]
          have d42 : (sp_link ft tv nv P).2.2.1 34 (P.1 27) = (prt fk pp nn (b + 1)).2.1 := by rw [← e4]
          have d43 : (sp_link ft tv nv P).2.2.1 35 (P.1 27) = (prt fk pp nn (b + 1)).2.2 := by rw [← e4]
          have iS2 : isS u.2.2 s2 n2 (cst tv (sp_link ft tv nv P) (P.1 27)) (((sp_link ft tv nv P).2.2.2.1 33 (P.1 27)).map pp) (rl0 (sp_link ft tv nv P) 34 (P.1 27)) (rl0 (sp_link ft tv nv P) 35 (P.1 27)) := by
            unfold cst rl0
            rw [if_pos kn, if_pos kn, if_pos kn, d41, d42, d43]; exact q2
          -- the finds
          have z5 : (lk5 tv nv P).1 13 = 0 := by
            by_cases q : (lk5 tv nv P).1 13 = 0
            · exact q
            · exfalso
              unfold sp_link at z
              split at z
              · rename_i r; omega
              · rw [if_pos (show 0 < (lk5 tv nv P).1 13 by omega)] at z; exact q z
          obtain ⟨w1, w2⟩ := e12b z5
          have k7 : (lk6 (lk5 tv nv P)).2.2.1 7 ((lk6 (lk5 tv nv P)).1 12) = 1 := by
            have zn : (sp_name P).1 13 = 0 := by
              have d5' : lk5 tv nv P = sp_sign tv (nI 61) (lk4 (lk3 tv nv P)) := rfl
              have f4 : (lk3 tv nv P).1 13 = 0 := (f_sign (show (sp_sign tv (nI 61) (lk4 (lk3 tv nv P))).1 13 = 0 from z5)).1
              exact (range_spec (P := lk2 P) f4).1
            obtain ⟨p13, pk, v28, va, -⟩ := lk5_spec zn z5
            rw [w1]
            show (lk5 tv nv P).2.2.1 7 b = 1
            rw [va 7 b (Or.inl (by decide))]; exact e1
          obtain ⟨g1, g2, g3, g4, g5⟩ := key z5 k7 w1 w2
          have kr := x.kr
          rw [d5] at kr
          rcases kr with kr | r
          case inr => rw [e1] at r; exact absurd r.1 (by decide)
          obtain ⟨-, -, k17, k36, kAB⟩ := kr
          have kAB := kAB _ rfl _ rfl
          rw [g1, g2, g4, g5] at q3
          have xw : wro ft ad (sp_link ft tv nv P) (P.1 15 - 1) (P.1 27) = (match m_find ft (P.2.2.1 8) (P.2.2.1 9) (P.2.2.1 20) b (P.1 18 - P.2.2.1 17 (P.1 15 - 1)) (P.2.2.1 17 (P.1 15 - 1)) with | some y => some (ad 5 y) | none => (m_find ft (P.2.2.1 8) (P.2.2.1 9) ((sp_link ft tv nv P).2.2.1 38) b ((sp_link ft tv nv P).1 37 - P.2.2.1 36 (P.1 15 - 1)) (P.2.2.1 36 (P.1 15 - 1))).map (ad 7)) := by
            unfold wro
            rw [if_pos kn, d5, f5 8 (by unfold nl; decide), f5 9 (by unfold nl; decide), f5 20 (by unfold nl; decide), f3 17 (P.1 15 - 1) (Or.inl rfl) (by omega), f3 36 (P.1 15 - 1) (Or.inr rfl) (by omega), show pe (sp_link ft tv nv P) (P.1 15 - 1) = P.1 18 by unfold pe; rw [x15, if_neg (by omega), x18], show ie (sp_link ft tv nv P) (P.1 15 - 1) = (sp_link ft tv nv P).1 37 by unfold ie; rw [x15, if_neg (by omega)]]
            rcases m_find ft (P.2.2.1 8) (P.2.2.1 9) (P.2.2.1 20) b (P.1 18 - P.2.2.1 17 (P.1 15 - 1)) (P.2.2.1 17 (P.1 15 - 1)) with _ | y <;> rfl
          rcases q3 with ⟨y, h1, h2, h3⟩ | ⟨h1, h2, w, h3, h4, h5, h6⟩
          · have nn' : ¬ (m_find ft (P.2.2.1 8) (P.2.2.1 9) (P.2.2.1 20) b (P.1 18 - P.2.2.1 17 (P.1 15 - 1)) (P.2.2.1 17 (P.1 15 - 1)) = none ∧ m_find ft (P.2.2.1 8) (P.2.2.1 9) (P.2.2.1 38) b (P.1 37 - P.2.2.1 36 (P.1 15 - 1)) (P.2.2.1 36 (P.1 15 - 1)) = none) := fun q => by
              rw [q.1, q.2] at h1
              rcases h1 with r | r
              · cases r
              · cases r.2
            rcases kAB with r | r
            · exact absurd ⟨r.1, r.2.1⟩ nn'
            · refine RX.link hR hs.1 hs.2.1 hs.2.2.1 hs.2.2.2.1 x h15.1 (by omega) hcq hm fk1 fs1 fn1 fs2 fn2 hs12 hn12 iK (by rw [d31, d32, d33]; exact iS1) (by rw [d4]; exact iN1) iS2 (by rw [d5]; exact iN2) hl hfr.2 (Or.inl ⟨r.2.1, h3, ?_⟩) (fun _ => by rw [h2]; exact Option.some_ne_none _)
              rw [h2, xw, r.2.1, r.2.2]
              rcases h1 with q | q
              · rcases eA : m_find ft (P.2.2.1 8) (P.2.2.1 9) (P.2.2.1 20) b (P.1 18 - P.2.2.1 17 (P.1 15 - 1)) (P.2.2.1 17 (P.1 15 - 1)) with _ | y'
                · rw [eA] at q; cases q
                · rw [eA] at q; exact q.symm
              · rcases eA : m_find ft (P.2.2.1 8) (P.2.2.1 9) (P.2.2.1 20) b (P.1 18 - P.2.2.1 17 (P.1 15 - 1)) (P.2.2.1 17 (P.1 15 - 1)) with _ | y'
                · exact q.2.symm
                · rw [eA] at q; cases q.1
          · have hA : m_find ft (P.2.2.1 8) (P.2.2.1 9) (P.2.2.1 20) b (P.1 18 - P.2.2.1 17 (P.1 15 - 1)) (P.2.2.1 17 (P.1 15 - 1)) = none := Option.map_eq_none_iff.mp h1
            have hB : m_find ft (P.2.2.1 8) (P.2.2.1 9) (P.2.2.1 38) b (P.1 37 - P.2.2.1 36 (P.1 15 - 1)) (P.2.2.1 36 (P.1 15 - 1)) = none := Option.map_eq_none_iff.mp h2
            rcases kAB with r | r
            · refine RX.link hR hs.1 hs.2.1 hs.2.2.1 hs.2.2.2.1 x h15.1 (by omega) hcq hm fk1 fs1 fn1 fs2 fn2 hs12 hn12 iK (by rw [d31, d32, d33]; exact iS1) (by rw [d4]; exact iN1) iS2 (by rw [d5]; exact iN2) hl hfr.2 (Or.inr ⟨w, r.2.2.1, h3, h4, h6, h5, by rw [d5]; exact e1, by rw [d5]; exact hA, by rw [d5]; exact hB, by rw [d5]; exact r.2.2.2.1⟩) (fun _ => by rw [h5]; exact Option.some_ne_none _)
            · exact absurd ⟨hA, hB⟩ r.1
    exact Or.inl ⟨z, t.1, by rw [hu]; exact t.2, main, BX, l12, x15, by rw [x23, x15, x24]; exact hcq⟩
  · have t := c1.f z
    refine Or.inr ⟨z, t.1, by rw [hu]; exact t.2, ?_⟩
    have hq : P.1 24 - 1 < P.1 24 := by omega
    have kl : G.1 (ad 11 (P.1 24 - 1)) = 7 := (hR.1 11 _ hq).1
    have ki : G.1 (ad 3 (P.1 15 - 1)) = 7 := (hR.1 3 _ hc).1
    have hS : ∀ b, (fun b => b = ad 11 (P.1 24 - 1) ∨ b = ad 3 (P.1 15 - 1)) b → G.1 b = 6 ∨ G.1 b = 7 := fun b q => by rcases q with q | q <;> rw [q] <;> omega
    have nS : ∀ k j, j < cno P k → ¬ (k = 11 ∧ j = P.1 24 - 1) → ¬ (k = 3 ∧ j = P.1 15 - 1) → ¬ (ad k j = ad 11 (P.1 24 - 1) ∨ ad k j = ad 3 (P.1 15 - 1)) := fun k j a b d q => by
      rcases q with q | q
      · exact hR.1.ne a (show P.1 24 - 1 < cno P 11 from hq) b q
      · exact hR.1.ne a (show P.1 15 - 1 < cno P 3 from hc) d q
    refine hR.rb hfr.2 hS (fun k j a => Or.inr (nS k j (Nat.lt_of_lt_of_le a (cnz_le P k)) (fun q => by rw [q.1] at a; exact absurd a (Nat.not_lt_zero _)) (fun q => by rw [q.1] at a; exact absurd a (Nat.not_lt_zero _)))) (ys := rga (ad 0) 0 (P.1 15)) ?_ (by rw [rga_len]; omega)
    rw [← hR.2.1.1]
    exact LSx_fs hR.2.2.2.1 hfr.2 (fun b a q => by have := hS b q; omega) (nS 24 0 (show 0 < 1 by decide) (by omega) (by omega))
end LKS
