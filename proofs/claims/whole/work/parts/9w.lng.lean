section LNG
variable {t0 qc qna qdf : Nat} {ft tv gw gp : Nat → Int32} {nv : Nat → Nat} {T : Nat} {fk : Nat → Int32} {pp nn : Nat → Nat} {fh fl : Nat → Int64} {G G' : PG} {ad : Nat → Nat → Nat} {tg : Nat → Nat × Nat} {P S : PS} {c q l i x y ld : Nat}
/-- a link's right side, and what a side without a range says -/
theorem lnk_g (hR : RF t0 qc qna qdf ft tv fh fl pp nn G ad tg P) (h : KC ft tv gw gp nv T fk pp nn fh fl P) (hi : inl P c q l) : G.2.2.2.2.2 (ad 12 l) 1 = some (ad 15 l) ∧ G.2.2.2.2.2 (ad 12 l) 3 = wrk ft ad P c l ∧ G.1 (ad 15 l) = 3 ∧ G.2.2.2.2.2 (ad 15 l) 0 = some (ad 16 l) ∧ isT fh fl pp G (ad 16 l) (P.2.2.1 32 l) ∧ (∀ z, G.2.2.1 (ad 15 l) 2 = some z → z < 2 ^ 31) ∧ G.2.1 (ad 15 l) 3 < 100 ∧ G.2.1 (ad 15 l) 4 < 100 ∧ (G.2.2.1 (ad 15 l) 2 = none → G.2.1 (ad 15 l) 3 = 0 ∧ G.2.1 (ad 15 l) 4 = 0) ∧ (G.2.2.1 (ad 13 l) 2 = none → G.2.1 (ad 13 l) 3 = 0 ∧ G.2.1 (ad 13 l) 4 = 0) ∧ ∀ z, G.2.2.1 (ad 16 l) 2 = some z → z < 2 ^ 31 := by
  obtain ⟨hq, hl⟩ := h.inl hi
  have tl := h.ln l hl
  obtain ⟨k1, k2, k3, k4, k5, -⟩ := hR.2.2.2.2.2.2.2.2.1 c q l hi
  have ab := h.2.1.1.1
  have lk := h.2.2.1.1.2.2.1.lk l hl
  have l12 := h.l12
  refine ⟨k1.2.2.1, k1.2.2.2, k4.1, k4.2.1, k5, fun z hz => ?_, ?_, ?_, fun e => ?_, fun e => ?_, fun z hz => ?_⟩
  · rw [k4.2.2.2.1] at hz
    rcases e : P.2.2.2.1 33 l with _ | y
    · rw [e] at hz; cases hz
    · rw [e] at hz; cases hz
      have := lk.2.2.2.2.1 y e
      exact h.pp_lt (by omega)
  · rw [k4.2.2.2.2.1]; unfold rl0; split
    · exact ab 34 l (by decide) (by decide)
    · decide
  · rw [k4.2.2.2.2.2]; unfold rl0; split
    · exact ab 35 l (by decide) (by decide)
    · decide
  · rw [k4.2.2.2.1] at e
    have e33 : P.2.2.2.1 33 l = none := by
      rcases z : P.2.2.2.1 33 l with _ | y
      · rfl
      · rw [z] at e; cases e
    rw [k4.2.2.2.2.1, k4.2.2.2.2.2]
    unfold rl0
    by_cases k7 : P.2.2.1 7 (P.2.2.1 32 l) = 1
    · rw [if_pos k7, if_pos k7]
      rcases lk.2.2.2.2.2.2 with r | r
      · exact r.2 e33
      · omega
    · rw [if_neg k7, if_neg k7]; exact ⟨rfl, rfl⟩
  · rw [k2.2.2.2.1] at e
    have e29 : P.2.2.2.1 29 l = none := by
      rcases z : P.2.2.2.1 29 l with _ | y
      · rfl
      · rw [z] at e; cases e
    rw [k2.2.2.2.2.1, k2.2.2.2.2.2]
    exact lk.2.2.2.2.2.1 e29
  · rw [k5.2.2.2] at hz
    cases hz
    exact h.pp_lt tl.2.2
end LNG
/-! A link without a fault -/
section LOKS
variable {t0 qc qna qdf : Nat} {ft tv gw gp : Nat → Int32} {nv : Nat → Nat} {T : Nat} {fk : Nat → Int32} {pp nn : Nat → Nat} {fh fl : Nat → Int64} {G G' : PG} {ad : Nat → Nat → Nat} {tg : Nat → Nat × Nat} {P S S' : PS} {c q l i x y ld : Nat}
/-- link l of chip c is right: its left side is at pin x of a part that is i -/
def LOK (ft gp : Nat → Int32) (P S : PS) (c i x l : Nat) : Prop :=
  q_pin ft gp P i (P.2.2.1 28 l) = some x ∧ m_fits (P.2.2.2.1 29 l) (P.2.2.1 30 l) (P.2.2.1 31 l) (m_wd (P.2.2.1 21) i x) = true ∧ (m_isOut (P.2.2.2.2 19) i x = true → P.2.2.1 7 (P.2.2.1 32 l) = 1) ∧
  (P.2.2.1 7 (P.2.2.1 32 l) = 1 → (∃ z, q_own ft P c (P.2.2.1 32 l) = some z ∧ P.2.2.2.2 19 z = m_isOut (P.2.2.2.2 19) i x ∧ m_fits (P.2.2.2.1 33 l) (P.2.2.1 34 l) (P.2.2.1 35 l) (P.2.2.1 21 z) = true ∧ m_bits (P.2.2.2.1 33 l) (P.2.2.1 34 l) (P.2.2.1 35 l) (P.2.2.1 21 z) = q_mb P i x l) ∨
    ∃ y, q_own ft P c (P.2.2.1 32 l) = none ∧ q_inn ft P c (P.2.2.1 32 l) = some y ∧ P.2.2.2.1 33 l = none ∧ ((m_isOut (P.2.2.2.2 19) i x = false ∧ S.2.2.2.1 39 y = none) ∨ S.2.2.2.1 39 y = some (q_mb P i x l)))
theorem qlb_kp (hk : kp P S) : q_lb S i x l = q_lb P i x l := by
  unfold q_lb
  rw [hk.2.2.1 29 (by decide) (by decide), hk.2.1 30 (by decide) (by decide), hk.2.1 31 (by decide) (by decide), hk.2.1 21 (by decide) (by decide)]
theorem qlb_s {b : Nat} (e : q_lb P i x l = some b) : m_fits (P.2.2.2.1 29 l) (P.2.2.1 30 l) (P.2.2.1 31 l) (m_wd (P.2.2.1 21) i x) = true ∧ q_mb P i x l = b := by
  unfold q_lb at e
  split at e
  · exact ⟨by assumption, Option.some.inj e⟩
  · cases e
theorem lok_of (hR : RF t0 qc qna qdf ft tv fh fl pp nn G ad tg P) (h : KC ft tv gw gp nv T fk pp nn fh fl P) (hk : kp P S) (hi : inl P c q l) (h44 : S.2.2.2.1 44 q = some i) (hi2 : i < P.1 15 + 2) (f : FO ft gp P S c ld) (hl : l < ld) (l4 : ∀ q l' i x y, l' < l → ol ft gp P S c q l' i x y → S.2.2.2.2 40 y = true) (hn : (kl_link ft gp c i l S).1 = none) : ∃ x, LOK ft gp P S c i x l := by
  have wn : P.2.2.1 7 (P.2.2.1 32 l) = 1 → q_own ft P c (P.2.2.1 32 l) = none → q_inn ft P c (P.2.2.1 32 l) ≠ none := fun a b d => by
    refine (hR.2.2.2.2.2.2.2.2.1 c q l hi).2.2.2.2.2 a ?_
    unfold wrk
    rw [if_pos a, b, d]; rfl
  unfold kl_link at hn
  rw [q_pin_kp hk, hk.2.1 28 (by decide) (by decide)] at hn
  rcases e1 : q_pin ft gp P i (P.2.2.1 28 l) with _ | x
  · rw [e1] at hn; cases hn
  rw [e1] at hn
  have hn : (match q_lb S i x l with
    | none => (some (5, (S.2.2.2.1 29 l).getD 0), S)
    | some b => if m_isOut (S.2.2.2.2 19) i x = true then kr_ ft c l true b S
      else if S.2.2.1 48 x &&& q_ls S i x l = 0 then kr_ ft c l false b (cl_3 i x l S) else (some (3, P.2.2.1 28 l), S) : Option (Nat × Nat) × PS).1 = none := hn
  rcases e2 : q_lb S i x l with _ | b
  · rw [e2] at hn; cases hn
  rw [e2] at hn
  have hn : (if m_isOut (S.2.2.2.2 19) i x = true then kr_ ft c l true b S
      else if S.2.2.1 48 x &&& q_ls S i x l = 0 then kr_ ft c l false b (cl_3 i x l S) else (some (3, P.2.2.1 28 l), S) : Option (Nat × Nat) × PS).1 = none := hn
  rw [hk.2.2.2 19 (by decide)] at hn
  rw [qlb_kp hk] at e2
  obtain ⟨f1, f2⟩ := qlb_s e2
  refine ⟨x, e1, f1, ?_⟩
  by_cases io : m_isOut (P.2.2.2.2 19) i x = true
  · rw [if_pos io] at hn
    unfold kr_ at hn
    rw [q_own_kp hk, q_inn_kp hk, hk.2.1 7 (by decide) (by decide), hk.2.1 32 (by decide) (by decide)] at hn
    by_cases k7 : P.2.2.1 7 (P.2.2.1 32 l) = 1
    · rw [if_pos k7] at hn
      refine ⟨fun _ => k7, fun _ => ?_⟩
      rcases eo : q_own ft P c (P.2.2.1 32 l) with _ | z
      · right
        rcases ei : q_inn ft P c (P.2.2.1 32 l) with _ | y
        · exact absurd ei (wn k7 eo)
        rw [eo, ei] at hn
        have hn : (kr_in l y true b S).1 = none := hn
        unfold kr_in at hn
        rw [if_pos rfl] at hn
        by_cases q40 : S.2.2.2.2 40 y = true
        · rw [if_pos q40] at hn; cases hn
        rw [if_neg q40, hk.2.2.1 33 (by decide) (by decide)] at hn
        rcases e33 : P.2.2.2.1 33 l with _ | z
        · have o : ol ft gp P S c q l i x y := ⟨hi, h44, hi2, e1, io, by unfold q_ri; rw [if_pos k7]; exact ei⟩
          have by_ := m_find_in _ _ _ ei
          refine ⟨y, rfl, rfl, rfl, Or.inr ?_⟩
          rcases f y (by omega) (by omega) with ⟨-, bb⟩ | ⟨q0, l0, i0, x0, -, b2, b3, b4⟩
          · exact absurd o (bb q l i x hl)
          · rcases Nat.lt_trichotomy l0 l with z | z | z
            · exact absurd (l4 q0 l0 i0 x0 y z b2) q40
            · subst z
              have eq := inl_q h hi b2.1
              subst eq
              have ei2 : i0 = i := Option.some.inj (b2.2.1.symm.trans h44)
              subst ei2
              have ex : x0 = x := Option.some.inj (b2.2.2.2.1.symm.trans e1)
              subst ex
              rw [b3, e2, f2]
            · exact absurd o (b4 q l i x z)
        · rw [e33] at hn; cases hn
      · left
        rw [eo] at hn
        have hn : (kr_pin l z true b S).1 = none := hn
        unfold kr_pin at hn
        rw [hk.2.2.2 19 (by decide), hk.2.2.1 33 (by decide) (by decide), hk.2.1 34 (by decide) (by decide), hk.2.1 35 (by decide) (by decide), hk.2.1 21 (by decide) (by decide)] at hn
        by_cases g1 : P.2.2.2.2 19 z = true
        · rw [if_pos g1] at hn
          by_cases g2 : m_fits (P.2.2.2.1 33 l) (P.2.2.1 34 l) (P.2.2.1 35 l) (P.2.2.1 21 z) = true
          · rw [if_pos g2, if_pos rfl] at hn
            split at hn
            · by_cases g3 : m_bits (P.2.2.2.1 33 l) (P.2.2.1 34 l) (P.2.2.1 35 l) (P.2.2.1 21 z) = b
              · exact ⟨z, rfl, g1.trans io.symm, g2, g3.trans f2.symm⟩
              · rw [if_neg g3] at hn; cases hn
            · cases hn
          · rw [if_neg g2] at hn; cases hn
        · rw [if_neg g1] at hn; cases hn
    · rw [if_neg k7, if_pos rfl] at hn; cases hn
  · have io' := Bool.eq_false_iff.mpr io
    rw [if_neg io] at hn
    refine ⟨fun z => absurd z io, fun k7 => ?_⟩
    split at hn
    · have k3 : kp P (cl_3 i x l S) := kp_tr hk (by unfold cl_3; exact kp_ars (Or.inl rfl))
      unfold kr_ at hn
      rw [q_own_kp k3, q_inn_kp k3, k3.2.1 7 (by decide) (by decide), k3.2.1 32 (by decide) (by decide), if_pos k7] at hn
      rcases eo : q_own ft P c (P.2.2.1 32 l) with _ | z
      · right
        rcases ei : q_inn ft P c (P.2.2.1 32 l) with _ | y
        · exact absurd ei (wn k7 eo)
        rw [eo, ei] at hn
        have hn : (kr_in l y false b (cl_3 i x l S)).1 = none := hn
        unfold kr_in at hn
        rw [if_neg (by decide)] at hn
        split at hn
        · cases hn
        · rw [k3.2.2.1 33 (by decide) (by decide)] at hn
          rcases e33 : P.2.2.2.1 33 l with _ | z
          · rw [e33] at hn
            have hn : (if (cl_3 i x l S).2.2.2.1 39 y = none ∨ (cl_3 i x l S).2.2.2.1 39 y = some b then none else some (5, (cl_3 i x l S).2.2.1 32 l)) = none := hn
            have e39 : (cl_3 i x l S).2.2.2.1 39 y = S.2.2.2.1 39 y := rfl
            rw [e39] at hn
            refine ⟨y, rfl, rfl, rfl, ?_⟩
            by_cases g : S.2.2.2.1 39 y = none ∨ S.2.2.2.1 39 y = some b
            · rcases g with g | g
              · exact Or.inl ⟨io', g⟩
              · exact Or.inr (by rw [g, f2])
            · rw [if_neg g] at hn; cases hn
          · rw [e33] at hn; cases hn
      · left
        rw [eo] at hn
        have hn : (kr_pin l z false b (cl_3 i x l S)).1 = none := hn
        unfold kr_pin at hn
        rw [k3.2.2.2 19 (by decide), k3.2.2.1 33 (by decide) (by decide), k3.2.1 34 (by decide) (by decide), k3.2.1 35 (by decide) (by decide), k3.2.1 21 (by decide) (by decide)] at hn
        by_cases g1 : P.2.2.2.2 19 z = false
        · rw [if_pos g1] at hn
          by_cases g2 : m_fits (P.2.2.2.1 33 l) (P.2.2.1 34 l) (P.2.2.1 35 l) (P.2.2.1 21 z) = true
          · rw [if_pos g2, if_neg (by decide)] at hn
            by_cases g3 : m_bits (P.2.2.2.1 33 l) (P.2.2.1 34 l) (P.2.2.1 35 l) (P.2.2.1 21 z) = b
            · exact ⟨z, rfl, g1.trans io'.symm, g2, g3.trans f2.symm⟩
            · rw [if_neg g3] at hn; cases hn
          · rw [if_neg g2] at hn; cases hn
        · rw [if_neg g1] at hn; cases hn
    · cases hn
/-- the links of chip c below ld are right -/
def LKD (ft gp : Nat → Int32) (P S : PS) (c ld : Nat) : Prop := ∀ q l, inl P c q l → l < ld → ∃ i x, S.2.2.2.1 44 q = some i ∧ i < P.1 15 + 2 ∧ LOK ft gp P S c i x l
theorem LKD.o (d : LKD ft gp P S c ld) (e : S'.2.2.2.1 = S.2.2.2.1) : LKD ft gp P S' c ld := by
  unfold LKD LOK at d ⊢; rw [e]; exact d
end LOKS
