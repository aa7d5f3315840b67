section TGT
variable {t0 qc qna qdf : Nat} {ft tv gw gp : Nat → Int32} {nv : Nat → Nat} {T : Nat} {fk : Nat → Int32} {pp nn : Nat → Nat} {fh fl : Nat → Int64} {G : PG} {ad : Nat → Nat → Nat} {tg : Nat → Nat × Nat} {P S S' : PS} {c q l i x y ld v a b : Nat}
theorem or_lt16 {m n : Nat} (h1 : m < 65536) (h2 : n < 65536) : m ||| n < 65536 := Nat.or_lt_two_pow (n := 16) h1 h2
theorem tgt_cmp (hR : RF t0 qc qna qdf ft tv fh fl pp nn G ad tg P) (h : KC ft tv gw gp nv T fk pp nn fh fl P) (hk : kp P S) (hi : inl P c q l) (r3 : ∀ y, y < P.2.2.1 36 (c + 1) → (S.2.2.2.1 39 y = some 0 → G.2.2.2.1 (ad 7 y) 6 = false) ∧ (S.2.2.2.1 39 y ≠ some 0 → G.2.2.2.1 (ad 7 y) 6 = true ∧ G.2.1 (ad 7 y) 2 = (S.2.2.2.1 39 y).getD 0))
    (fo : FO ft gp P S c ld) (hld : l < ld) (h44 : S.2.2.2.1 44 q = some i) (hi2 : i < P.1 15 + 2) (wb : WB G ad P) (lk : LK ft gp P ad c G S i l) (hq : q_pin ft gp P i (P.2.2.1 28 l) = some x) (ho : m_isOut (P.2.2.2.2 19) i x = true) (hb : q_lb P i x l = some b) (b16 : b ≤ 16) (b0 : b ≠ 0) :
    (ckt G (wrk ft ad P c l) (ad 15 l) b (some (pp (P.2.2.1 32 l)))).1 = fpt pp (kr_ ft c l true b S).1 ∧ lq P ad c G (ckt G (wrk ft ad P c l) (ad 15 l) b (some (pp (P.2.2.1 32 l)))).2 ∧ WB (ckt G (wrk ft ad P c l) (ad 15 l) b (some (pp (P.2.2.1 32 l)))).2 ad P ∧ (kr_ ft c l true b S).2.2.2.2.1 = S.2.2.2.1 ∧ ((kr_ ft c l true b S).1 = none → LK ft gp P ad c (ckt G (wrk ft ad P c l) (ad 15 l) b (some (pp (P.2.2.1 32 l)))).2 (kr_ ft c l true b S).2 i (l + 1)) := by
  rw [kr_e hk]
  have b17 := h.p17 hi.1
  have b36 := h.p36 hi.1
  have lqr := lq.rf P ad c G
  by_cases k7 : P.2.2.1 7 (P.2.2.1 32 l) = 1
  · obtain ⟨s1, s2, s3, s4⟩ := rt_side hR h hi k7
    have lk33 := (h.2.2.1.1.2.2.1.lk l (h.inl hi).2).2.2.2.2.2.2
    have n33 : P.2.2.2.1 33 l = none → P.2.2.1 34 l = 0 ∧ P.2.2.1 35 l = 0 := fun e => by
      rcases lk33 with r | r
      · exact r.2 e
      · omega
    have ew : wrk ft ad P c l = (match q_own ft P c (P.2.2.1 32 l) with | some x => some (ad 5 x) | none => (q_inn ft P c (P.2.2.1 32 l)).map (ad 7)) := if_pos k7
    have er0 : q_ri ft P c l = q_inn ft P c (P.2.2.1 32 l) := if_pos k7
    rw [if_pos k7, ew]
    rcases eo : q_own ft P c (P.2.2.1 32 l) with _ | z
    · rcases ei : q_inn ft P c (P.2.2.1 32 l) with _ | y
      · exfalso
        have := hR.2.2.2.2.2.2.2.2.1 c q l hi
        have := this.2.2.2.2.2 k7
        rw [ew, eo, ei] at this
        exact this rfl
      · have by_ := m_find_in _ _ _ ei
        obtain ⟨w1, -⟩ := hR.2.2.2.2.2.2.1 y (by omega)
        obtain ⟨i1, i2⟩ := r3 y (by omega)
        have l2 := lk.2.1 y by_.1 (by omega)
        have ol1 : ol ft gp P S c q l i x y := ⟨hi, h44, hi2, hq, ho, by rw [er0]; exact ei⟩
        have er : rir G (ad 7 y) (ad 15 l) = decide ((P.2.2.2.1 33 l).map pp = none) := by unfold rir; rw [if_pos w1.2.2, s1]
        have eC : ckt G (some (ad 7 y)) (ad 15 l) b (some (pp (P.2.2.1 32 l))) = if G.2.1 (ad 7 y) 1 = 0 then (some (4, some (pp (P.2.2.1 32 l))), G) else if G.2.1 (ad 7 y) 1 = 2 ∧ G.2.1 (ad 7 y) 5 ≠ 0 then (some (3, some (pp (P.2.2.1 32 l))), G) else if rir G (ad 7 y) (ad 15 l) = true then
          (if G.2.1 (ad 7 y) 5 &&& m_set (m_bits (G.2.2.1 (ad 15 l) 2) (G.2.1 (ad 15 l) 3) (G.2.1 (ad 15 l) 4) (G.2.1 (ad 7 y) 2)) (G.2.1 (ad 15 l) 3) = 0 then ((if m_bits (G.2.2.1 (ad 15 l) 2) (G.2.1 (ad 15 l) 3) (G.2.1 (ad 15 l) 4) (G.2.1 (ad 7 y) 2) = b then none else some (5, some (pp (P.2.2.1 32 l)))), gN G (ad 7 y) 5 (G.2.1 (ad 7 y) 5 ||| m_set (m_bits (G.2.2.1 (ad 15 l) 2) (G.2.1 (ad 15 l) 3) (G.2.1 (ad 15 l) 4) (G.2.1 (ad 7 y) 2)) (G.2.1 (ad 15 l) 3))) else (some (3, some (pp (P.2.2.1 32 l))), G))
          else (some (5, G.2.2.1 (ad 15 l) 2), G) := rfl
        have eK : kr_in l y true b S = if S.2.2.2.2 40 y = true then (some (3, P.2.2.1 32 l), S) else match P.2.2.2.1 33 l with
            | some z => (some (5, z), S)
            | none => (none, abs_ S 40 y true) := by
          unfold kr_in
          rw [if_pos rfl, hk.2.1 32 (by decide) (by decide), hk.2.2.1 33 (by decide) (by decide)]
          rcases P.2.2.2.1 33 l with _ | z <;> rfl
        show (ckt G (some (ad 7 y)) (ad 15 l) b (some (pp (P.2.2.1 32 l)))).1 = fpt pp (kr_in l y true b S).1 ∧ lq P ad c G (ckt G (some (ad 7 y)) (ad 15 l) b (some (pp (P.2.2.1 32 l)))).2 ∧ WB (ckt G (some (ad 7 y)) (ad 15 l) b (some (pp (P.2.2.1 32 l)))).2 ad P ∧ (kr_in l y true b S).2.2.2.2.1 = S.2.2.2.1 ∧ ((kr_in l y true b S).1 = none → LK ft gp P ad c (ckt G (some (ad 7 y)) (ad 15 l) b (some (pp (P.2.2.1 32 l)))).2 (kr_in l y true b S).2 i (l + 1))
        rw [eC, eK, w1.2.2, if_neg (by decide), er]
        by_cases h40 : S.2.2.2.2 40 y = true
        · rw [if_pos ⟨rfl, l2.mpr h40⟩, if_pos h40]
          exact ⟨rfl, lqr, wb, rfl, fun e => by cases e⟩
        · have z5 : G.2.1 (ad 7 y) 5 = 0 := Classical.byContradiction (fun e => h40 (l2.mp e))
          rw [if_neg (fun e => e.2 z5), if_neg h40]
          rcases e33 : P.2.2.2.1 33 l with _ | t
          · have n34 := (n33 e33).1
            -- the width is this link's
            have w39 : S.2.2.2.1 39 y = some b := by
              rcases fo y by_.1 (by omega) with ⟨-, f2⟩ | ⟨q0, l0, i0, x0, f1, f2, f3, f4⟩
              · exact absurd ol1 (f2 q l i x hld)
              · rcases Nat.lt_trichotomy l0 l with z | z | z
                · exact absurd (lk.2.2.2 q0 l0 i0 x0 y z f2) h40
                · subst z
                  have eq := inl_q h hi f2.1
                  subst eq
                  have e1 : i0 = i := Option.some.inj (f2.2.1.symm.trans h44)
                  subst e1
                  have e2 : x0 = x := Option.some.inj (f2.2.2.2.1.symm.trans hq)
                  subst e2
                  rw [f3, hb]
                · exact absurd ol1 (f4 q l i x z)
            have w2 : G.2.1 (ad 7 y) 2 = b := by
              rw [(i2 (by rw [w39]; exact fun e => b0 (Option.some.inj e))).2, w39]; rfl
            rw [if_pos (show decide (Option.map pp none = none) = true from rfl), s1, s2, s3, w2, z5, e33, n34]
            have eb : m_bits (Option.map pp none) 0 (P.2.2.1 35 l) b = b := rfl
            rw [eb, if_pos (Nat.zero_and _), Nat.zero_or, if_pos rfl]
            have hv : m_set b 0 ≠ 0 ∧ m_set b 0 < 65536 := by
              refine ⟨?_, m_set_lt (by omega)⟩
              unfold m_set
              have : 2 ^ b ≥ 2 ^ 1 := Nat.pow_le_pow_right (by decide) (by omega)
              omega
            obtain ⟨k1, k2⟩ := lk_inn hR h hi.1 hi2 lk by_.1 (show y < P.2.2.1 36 (c + 1) by omega) hv.1
            refine ⟨rfl, k2, WB_N wb hv.2, rfl, fun _ => LK.up k1 (fun q' i' x' y' o => ?_)⟩
            have ey : y' = y := by
              have := o.2.2.2.2.2
              rw [er0, ei] at this
              exact (Option.some.inj this).symm
            rw [ey]; exact abs_s
          · rw [if_neg (show ¬ decide (Option.map pp (some t) = none) = true by simp), s1, e33]
            exact ⟨rfl, lqr, wb, rfl, fun e => by cases e⟩
    · have bz := m_find_in _ _ _ eo
      have hz : z < P.1 18 := by omega
      obtain ⟨v, -⟩ := hR.2.2.2.2.2.1 z hz
      have w21 := h.w21 z hz
      have nol : ∀ q' i' x' y', ¬ ol ft gp P S c q' l i' x' y' := fun q' i' x' y' o => by
        have := o.2.2.2.2.2
        rw [er0] at this
        have := own_inn hR h hi.1 (h.ln l (h.inl hi).2).2.2 k7 this
        rw [eo] at this; cases this
      have eC : ckt G (some (ad 5 z)) (ad 15 l) b (some (pp (P.2.2.1 32 l))) = if G.2.1 (ad 5 z) 1 = 0 then (some (4, some (pp (P.2.2.1 32 l))), G) else if G.2.1 (ad 5 z) 1 = 2 ∧ G.2.1 (ad 5 z) 5 ≠ 0 then (some (3, some (pp (P.2.2.1 32 l))), G) else if rir G (ad 5 z) (ad 15 l) = true then
          (if G.2.1 (ad 5 z) 5 &&& m_set (m_bits (G.2.2.1 (ad 15 l) 2) (G.2.1 (ad 15 l) 3) (G.2.1 (ad 15 l) 4) (G.2.1 (ad 5 z) 2)) (G.2.1 (ad 15 l) 3) = 0 then ((if m_bits (G.2.2.1 (ad 15 l) 2) (G.2.1 (ad 15 l) 3) (G.2.1 (ad 15 l) 4) (G.2.1 (ad 5 z) 2) = b then none else some (5, some (pp (P.2.2.1 32 l)))), gN G (ad 5 z) 5 (G.2.1 (ad 5 z) 5 ||| m_set (m_bits (G.2.2.1 (ad 15 l) 2) (G.2.1 (ad 15 l) 3) (G.2.1 (ad 15 l) 4) (G.2.1 (ad 5 z) 2)) (G.2.1 (ad 15 l) 3))) else (some (3, some (pp (P.2.2.1 32 l))), G))
          else (some (5, G.2.2.1 (ad 15 l) 2), G) := rfl
      have eQ : q_rs S l z = m_set (m_bits (P.2.2.2.1 33 l) (P.2.2.1 34 l) (P.2.2.1 35 l) (P.2.2.1 21 z)) (P.2.2.1 34 l) := by
        unfold q_rs
        rw [hk.2.2.1 33 (by decide) (by decide), hk.2.1 34 (by decide) (by decide), hk.2.1 35 (by decide) (by decide), hk.2.1 21 (by decide) (by decide), s4]
      show (ckt G (some (ad 5 z)) (ad 15 l) b (some (pp (P.2.2.1 32 l)))).1 = fpt pp (kr_pin l z true b S).1 ∧ lq P ad c G (ckt G (some (ad 5 z)) (ad 15 l) b (some (pp (P.2.2.1 32 l)))).2 ∧ WB (ckt G (some (ad 5 z)) (ad 15 l) b (some (pp (P.2.2.1 32 l)))).2 ad P ∧ (kr_pin l z true b S).2.2.2.2.1 = S.2.2.2.1 ∧ ((kr_pin l z true b S).1 = none → LK ft gp P ad c (ckt G (some (ad 5 z)) (ad 15 l) b (some (pp (P.2.2.1 32 l)))).2 (kr_pin l z true b S).2 i (l + 1))
      unfold kr_pin cq_3
      rw [eC, eQ, hk.2.1 32 (by decide) (by decide), hk.2.2.1 33 (by decide) (by decide), hk.2.1 34 (by decide) (by decide), hk.2.1 35 (by decide) (by decide), hk.2.1 21 (by decide) (by decide), hk.2.2.2 19 (by decide)]
      by_cases h19 : P.2.2.2.2 19 z = true
      · have ev : G.2.1 (ad 5 z) 1 = 1 := by rw [v.2.2.1, if_pos h19]
        have er : rir G (ad 5 z) (ad 15 l) = m_fits (P.2.2.2.1 33 l) (P.2.2.1 34 l) (P.2.2.1 35 l) (P.2.2.1 21 z) := by unfold rir; rw [if_neg (by rw [ev]; decide), s1, s2, s3, v.2.2.2.1, (fits_map pp).1]
        have l1 := lk.1 z bz.1 (by omega) h19
        have me := fun q9 => (mask_eq (G := G) (w := ad 5 z) (s := ad 15 l) q9 (by rw [v.2.2.2.1]; exact w21.2) (fun e9 => by rw [s1] at e9; rw [s2, s3]; exact n33 (by rcases e33 : P.2.2.2.1 33 l with _ | t; rfl; rw [e33] at e9; cases e9))).2
        rw [s1, s2, s3, v.2.2.2.1, (fits_map pp).2] at me
        rw [er] at me
        rw [if_neg (by rw [ev]; decide), if_neg (fun e => by rw [ev] at e; exact absurd e.1 (by decide)), er, s1, s2, s3, v.2.2.2.1, (fits_map pp).2, l1, if_pos h19]
        by_cases hf : m_fits (P.2.2.2.1 33 l) (P.2.2.1 34 l) (P.2.2.1 35 l) (P.2.2.1 21 z) = true
        · rw [if_pos hf, if_pos hf, if_pos rfl]
          by_cases ha : S.2.2.1 49 z &&& m_set (m_bits (P.2.2.2.1 33 l) (P.2.2.1 34 l) (P.2.2.1 35 l) (P.2.2.1 21 z)) (P.2.2.1 34 l) = 0
          · rw [if_pos ha, if_pos ha]
            obtain ⟨k1, k2⟩ := lk_own (v := S.2.2.1 49 z ||| m_set (m_bits (P.2.2.2.1 33 l) (P.2.2.1 34 l) (P.2.2.1 35 l) (P.2.2.1 21 z)) (P.2.2.1 34 l)) hR h hi.1 hi2 lk bz.1 (show z < P.2.2.1 17 (c + 1) by omega) h19
            refine ⟨?_, k2, WB_N wb (or_lt16 (by rw [← l1]; exact wb.1 z hz) (m_set_lt (me hf))), rfl, fun _ => LK.up k1 (fun q' i' x' y' o => absurd ((ol_44 rfl).mp o) (nol q' i' x' y'))⟩
            show (if _ then _ else _) = fpt pp (if _ then _ else _)
            split <;> rfl
          · rw [if_neg ha, if_neg ha]
            exact ⟨rfl, lqr, wb, rfl, fun e => by cases e⟩
        · rw [if_neg hf, if_neg hf]
          refine ⟨?_, lqr, wb, rfl, fun e => by cases e⟩
          rcases e33 : P.2.2.2.1 33 l with _ | t
          · rw [e33] at hf; exact absurd rfl hf
          · rfl
      · have ev : G.2.1 (ad 5 z) 1 = 0 := by rw [v.2.2.1, if_neg h19]
        rw [if_pos ev, if_neg h19]
        exact ⟨rfl, lqr, wb, rfl, fun e => by cases e⟩
  · have ew : wrk ft ad P c l = none := if_neg k7
    rw [if_neg k7, ew, if_pos rfl]
    exact ⟨rfl, lqr, wb, rfl, fun e => by cases e⟩
end TGT
