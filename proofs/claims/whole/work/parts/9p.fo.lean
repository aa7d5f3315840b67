/-! The first link from an OUT pin tells an inner name's width -/
/-- link l leads from an OUT pin (x of chip i) to the inner name y -/
def ol (ft gp : Nat → Int32) (P S : PS) (c q l i x y : Nat) : Prop := inl P c q l ∧ S.2.2.2.1 44 q = some i ∧ i < P.1 15 + 2 ∧ q_pin ft gp P i (P.2.2.1 28 l) = some x ∧ m_isOut (P.2.2.2.2 19) i x = true ∧ q_ri ft P c l = some y
def FO (ft gp : Nat → Int32) (P S : PS) (c ld : Nat) : Prop := ∀ y, P.2.2.1 36 c ≤ y → y < P.2.2.1 36 (c + 1) →
  (S.2.2.2.1 39 y = some 0 ∧ ∀ q l i x, l < ld → ¬ ol ft gp P S c q l i x y) ∨ ∃ q0 l0 i0 x0, l0 < ld ∧ ol ft gp P S c q0 l0 i0 x0 y ∧ S.2.2.2.1 39 y = q_lb P i0 x0 l0 ∧ ∀ q l i x, l < l0 → ¬ ol ft gp P S c q l i x y
section FOS
variable {t0 qc qna qdf : Nat} {ft tv gw gp : Nat → Int32} {nv : Nat → Nat} {T : Nat} {fk : Nat → Int32} {pp nn : Nat → Nat} {fh fl : Nat → Int64} {G : PG} {ad : Nat → Nat → Nat} {tg : Nat → Nat × Nat} {P S S' : PS} {c q l i x y ld : Nat}
theorem inl_q (h : KC ft tv gw gp nv T fk pp nn fh fl P) {q' : Nat} (h1 : inl P c q l) (h2 : inl P c q' l) : q' = q := by
  obtain ⟨a1, -⟩ := h.inl h1
  obtain ⟨b1, -⟩ := h.inl h2
  have m := h.2.2.1.1.2.2.1.fm
  rcases Nat.lt_trichotomy q' q with z | z | z
  · have := (m (q' + 1) q (by omega) a1).1
    have := h1.2.2.1
    have := h2.2.2.2
    omega
  · exact z
  · have := (m (q + 1) q' (by omega) b1).1
    have := h2.2.2.1
    have := h1.2.2.2
    omega
theorem qlb_pos (hR : RF t0 qc qna qdf ft tv fh fl pp nn G ad tg P) (h : KC ft tv gw gp nv T fk pp nn fh fl P) (o : ol ft gp P S c q l i x y) : q_lb P i x l ≠ some 0 := by
  obtain ⟨o1, o2, o3, o4, -⟩ := o
  have tl := h.ln l (h.inl o1).2
  have p4 := (pad_f hR h o3 tl.2.1 tl.1 o4).2.2.2.1
  unfold q_lb
  split
  · exact fun e => bits_pos p4.1 (Option.some.inj e)
  · exact fun e => by cases e
theorem fi_link_e (hk : kp P S) : fi_link ft gp c i l S = match q_pin ft gp P i (P.2.2.1 28 l) with
    | none => S
    | some x => match q_ri ft P c l with
      | none => S
      | some y => if m_isOut (P.2.2.2.2 19) i x = true ∧ S.2.2.2.1 39 y = some 0 then aos S 39 y (q_lb P i x l) else S := by
  unfold fi_link q_ri q_lb
  rw [q_pin_kp hk, q_inn_kp hk, hk.2.1 28 (by decide) (by decide), hk.2.1 7 (by decide) (by decide), hk.2.1 32 (by decide) (by decide), hk.2.2.2 19 (by decide), hk.2.2.1 29 (by decide) (by decide), hk.2.1 30 (by decide) (by decide), hk.2.1 31 (by decide) (by decide), hk.2.1 21 (by decide) (by decide)]
  rcases q_pin ft gp P i (P.2.2.1 28 l) with _ | x
  · rfl
  · rcases (if P.2.2.1 7 (P.2.2.1 32 l) = 1 then q_inn ft P c (P.2.2.1 32 l) else none) with _ | y <;> rfl
/-- what one link does to row 39 -/
theorem fi_link_39 (hk : kp P S) : (fi_link ft gp c i l S).2.2.2.1 44 = S.2.2.2.1 44 ∧ ∀ y, ((∃ x, q_pin ft gp P i (P.2.2.1 28 l) = some x ∧ m_isOut (P.2.2.2.2 19) i x = true ∧ q_ri ft P c l = some y ∧ S.2.2.2.1 39 y = some 0 ∧ (fi_link ft gp c i l S).2.2.2.1 39 y = q_lb P i x l) ∨ (¬ (∃ x, q_pin ft gp P i (P.2.2.1 28 l) = some x ∧ m_isOut (P.2.2.2.2 19) i x = true ∧ q_ri ft P c l = some y ∧ S.2.2.2.1 39 y = some 0) ∧ (fi_link ft gp c i l S).2.2.2.1 39 y = S.2.2.2.1 39 y)) := by
  rw [fi_link_e hk]
  rcases e1 : q_pin ft gp P i (P.2.2.1 28 l) with _ | x
  · exact ⟨rfl, fun y => Or.inr ⟨fun ⟨x, a, _⟩ => (by cases a), rfl⟩⟩
  rcases e2 : q_ri ft P c l with _ | z
  · exact ⟨rfl, fun y => Or.inr ⟨fun ⟨x, _, _, a, _⟩ => (by cases a), rfl⟩⟩
  show (if m_isOut (P.2.2.2.2 19) i x = true ∧ S.2.2.2.1 39 z = some 0 then aos S 39 z (q_lb P i x l) else S).2.2.2.1 44 = _ ∧ ∀ y, ((∃ x', some x = some x' ∧ m_isOut (P.2.2.2.2 19) i x' = true ∧ some z = some y ∧ S.2.2.2.1 39 y = some 0 ∧ (if m_isOut (P.2.2.2.2 19) i x = true ∧ S.2.2.2.1 39 z = some 0 then aos S 39 z (q_lb P i x l) else S).2.2.2.1 39 y = q_lb P i x' l) ∨ (¬ (∃ x', some x = some x' ∧ m_isOut (P.2.2.2.2 19) i x' = true ∧ some z = some y ∧ S.2.2.2.1 39 y = some 0) ∧ (if m_isOut (P.2.2.2.2 19) i x = true ∧ S.2.2.2.1 39 z = some 0 then aos S 39 z (q_lb P i x l) else S).2.2.2.1 39 y = S.2.2.2.1 39 y))
  by_cases q : m_isOut (P.2.2.2.2 19) i x = true ∧ S.2.2.2.1 39 z = some 0
  · rw [if_pos q]
    refine ⟨funext (fun j => aos_k (fun z => absurd z.1 (by decide))), fun y => ?_⟩
    by_cases ey : y = z
    · subst ey
      exact Or.inl ⟨x, rfl, q.1, rfl, q.2, aos_s⟩
    · exact Or.inr ⟨fun ⟨_, _, _, a, _⟩ => ey (Option.some.inj a).symm, aos_k (fun r => ey r.2)⟩
  · rw [if_neg q]
    exact ⟨rfl, fun y => Or.inr ⟨fun ⟨x', a, b, d, e⟩ => (by cases a; cases d; exact q ⟨b, e⟩), rfl⟩⟩
theorem fo_link (hR : RF t0 qc qna qdf ft tv fh fl pp nn G ad tg P) (h : KC ft tv gw gp nv T fk pp nn fh fl P) (hk : kp P S) (hi : inl P c q l) (h44 : S.2.2.2.1 44 q = some i) (hi2 : i < P.1 15 + 2) (f : FO ft gp P S c l) : FO ft gp P (fi_link ft gp c i l S) c (l + 1) := by
  obtain ⟨e44, e39⟩ := fi_link_39 (ft := ft) (gp := gp) (c := c) (i := i) (l := l) hk
  have eo : ∀ q' l' i' x' y, ol ft gp P (fi_link ft gp c i l S) c q' l' i' x' y ↔ ol ft gp P S c q' l' i' x' y := fun q' l' i' x' y => by unfold ol; rw [e44]
  intro y h1 h2
  simp only [eo]
  rcases e39 y with ⟨x, a1, a2, a3, a4, a5⟩ | ⟨a1, a2⟩
  · refine Or.inr ⟨q, l, i, x, by omega, ⟨hi, h44, hi2, a1, a2, a3⟩, a5, ?_⟩
    rcases f y h1 h2 with ⟨-, b⟩ | ⟨q0, l0, i0, x0, -, b2, b3, -⟩
    · exact b
    · exact absurd (b3.symm.trans a4) (qlb_pos hR h b2)
  · rw [a2]
    rcases f y h1 h2 with ⟨b1, b2⟩ | ⟨q0, l0, i0, x0, b1, b2, b3, b4⟩
    · refine Or.inl ⟨b1, fun q' l' i' x' hl' o => ?_⟩
      by_cases e : l' = l
      · subst e
        have eq := inl_q h hi o.1
        subst eq
        have ei : i' = i := Option.some.inj (o.2.1.symm.trans h44)
        subst ei
        exact a1 ⟨x', o.2.2.2.1, o.2.2.2.2.1, o.2.2.2.2.2, b1⟩
      · exact b2 q' l' i' x' (by omega) o
    · exact Or.inr ⟨q0, l0, i0, x0, by omega, b2, b3, b4⟩
theorem fo_links (hR : RF t0 qc qna qdf ft tv fh fl pp nn G ad tg P) (h : KC ft tv gw gp nv T fk pp nn fh fl P) (hc : c < P.1 15) (hq : P.2.2.1 23 c ≤ q ∧ q < P.2.2.1 23 (c + 1)) (hi2 : i < P.1 15 + 2) : ∀ k l S, kp P S → P.2.2.1 26 q ≤ l → l + k = P.2.2.1 26 (q + 1) → S.2.2.2.1 44 q = some i → FO ft gp P S c l → FO ft gp P (fi_links ft gp c i k l S) c (P.2.2.1 26 (q + 1)) ∧ (fi_links ft gp c i k l S).2.2.2.1 44 = S.2.2.2.1 44
  | 0, l, S, hk, h1, h2, h44, f => by rw [← h2]; exact ⟨f, rfl⟩
  | k + 1, l, S, hk, h1, h2, h44, f => by
    have e44 := (fi_link_39 (ft := ft) (gp := gp) (c := c) (i := i) (l := l) hk).1
    have r := fo_links hR h hc hq hi2 k (l + 1) (fi_link ft gp c i l S) (kp_tr hk (kp_filink _ _ _ _ _ _)) (by omega) (by omega) (by rw [e44]; exact h44) (fo_link hR h hk ⟨hc, hq, h1, by omega⟩ h44 hi2 f)
    exact ⟨r.1, r.2.trans e44⟩
theorem fo_parts (hR : RF t0 qc qna qdf ft tv fh fl pp nn G ad tg P) (h : KC ft tv gw gp nv T fk pp nn fh fl P) (hc : c < P.1 15) : ∀ k q S, kp P S → P.2.2.1 23 c ≤ q → q + k = P.2.2.1 23 (c + 1) → FO ft gp P S c (P.2.2.1 26 q) → FO ft gp P (fi_parts ft gw gp c k q S) c (P.2.2.1 26 (P.2.2.1 23 (c + 1)))
  | 0, q, S, hk, h1, h2, f => by rw [← h2]; exact f
  | k + 1, q, S, hk, h1, h2, f => by
    have hq24 : q < P.1 24 := by have := (h.p23 hc).2; omega
    have b26 := h.p26 hq24
    show FO ft gp P (fi_parts ft gw gp c k (q + 1) (fi_part ft gw gp c q S)) c _
    refine fo_parts hR h hc k (q + 1) _ (kp_tr hk (kp_fipart _ _ _ _ _ _)) (by omega) (by omega) ?_
    have eS : fi_is ft gw q S = aos S 44 q (q_chip ft gw P (P.2.2.1 25 q)) := by unfold fi_is; rw [q_chip_kp hk, hk.2.1 25 (by decide) (by decide)]
    have f1 : FO ft gp P (fi_is ft gw q S) c (P.2.2.1 26 q) := by
      rw [eS]
      have eo : ∀ q' l' i' x' y, l' < P.2.2.1 26 q → (ol ft gp P (aos S 44 q (q_chip ft gw P (P.2.2.1 25 q))) c q' l' i' x' y ↔ ol ft gp P S c q' l' i' x' y) := fun q' l' i' x' y hl' => by
        by_cases e : q' = q
        · subst e
          exact ⟨fun o => by have := o.1.2.2.1; omega, fun o => by have := o.1.2.2.1; omega⟩
        · unfold ol; rw [aos_k (fun z => e z.2)]
      intro y y1 y2
      rw [aos_k (fun z => absurd z.1 (by decide))]
      rcases f y y1 y2 with ⟨b1, b2⟩ | ⟨q0, l0, i0, x0, b1, b2, b3, b4⟩
      · exact Or.inl ⟨b1, fun q' l' i' x' hl' o => b2 q' l' i' x' hl' ((eo q' l' i' x' y hl').mp o)⟩
      · exact Or.inr ⟨q0, l0, i0, x0, b1, (eo q0 l0 i0 x0 y b1).mpr b2, b3, fun q' l' i' x' hl' o => b4 q' l' i' x' hl' ((eo q' l' i' x' y (by omega)).mp o)⟩
    have k1 : kp P (fi_is ft gw q S) := kp_tr hk (kp_aos (Or.inr rfl))
    have e44 : (fi_is ft gw q S).2.2.2.1 44 q = q_chip ft gw P (P.2.2.1 25 q) := by rw [eS]; exact aos_s
    rw [show fi_part ft gw gp c q S = match q_chip ft gw P (P.2.2.1 25 q) with | none => fi_is ft gw q S | some i => fi_links ft gp c i (P.2.2.1 26 (q + 1) - P.2.2.1 26 q) (P.2.2.1 26 q) (fi_is ft gw q S) from fi_part_e hk]
    rcases e : q_chip ft gw P (P.2.2.1 25 q) with _ | i
    · show FO ft gp P (fi_is ft gw q S) c _
      rw [e] at e44
      have no : ∀ q' l' i' x' y, P.2.2.1 26 q ≤ l' → l' < P.2.2.1 26 (q + 1) → ¬ ol ft gp P (fi_is ft gw q S) c q' l' i' x' y := fun q' l' i' x' y a b o => by
        have eq := inl_q h (q := q) ⟨hc, ⟨h1, by omega⟩, a, b⟩ o.1
        subst eq
        have := o.2.1
        rw [e44] at this; cases this
      intro y y1 y2
      rcases f1 y y1 y2 with ⟨b1, b2⟩ | ⟨q0, l0, i0, x0, b1, b2, b3, b4⟩
      · refine Or.inl ⟨b1, fun q' l' i' x' hl' o => ?_⟩
        by_cases z : l' < P.2.2.1 26 q
        · exact b2 q' l' i' x' z o
        · exact no q' l' i' x' y (by omega) hl' o
      · exact Or.inr ⟨q0, l0, i0, x0, by omega, b2, b3, b4⟩
    · rw [e] at e44
      exact (fo_links hR h hc ⟨h1, by omega⟩ (q_chip_in h (h.qn q hq24).2 (h.qn q hq24).1 e) _ _ _ k1 (Nat.le_refl _) (by omega) e44 f1).1
end FOS
