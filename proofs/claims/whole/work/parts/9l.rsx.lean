section RSX
variable {t0 qc qna qdf : Nat} {ft tv gw gp : Nat → Int32} {nv : Nat → Nat} {T : Nat} {fk : Nat → Int32} {pp nn : Nat → Nat} {fh fl : Nat → Int64} {L : List Nat} {G0 G G' : PG} {ad : Nat → Nat → Nat} {tg : Nat → Nat × Nat} {P S : PS} {c q l i x ld id qd : Nat}
/-- a chip by its number: its list of pins -/
theorem cad_f (hR : RF t0 qc qna qdf ft tv fh fl pp nn G ad tg P) (h : KC ft tv gw gp nv T fk pp nn fh fl P) (hi : i < P.1 15 + 2) : G.1 (cad ad i) = 6 ∧ G.2.2.2.2.2 (cad ad i) 3 = some (pxl ad i) ∧ LSx t0 G (pxl ad i) (pxs ad P i) ∧ (pxs ad P i).length < 1000 ∧ ∀ w ∈ pxs ad P i, G.1 w = 2 ∧ ∃ nm, G.2.2.2.2.2 w 0 = some nm ∧ G.1 nm = 1 := by
  unfold cad pxl pxs
  by_cases c1 : 1 < i
  · rw [if_pos c1, if_pos c1, if_pos c1]
    have hc : i - 2 < P.1 15 := by omega
    obtain ⟨a1, a2, a3, -⟩ := hR.2.2.2.2.1 (i - 2) hc
    have b := h.p17 hc
    have s := h.2.2.1.2.2.2.1
    refine ⟨a1.1, a1.2.2.2.2.1, a3, by rw [rga_len]; have := s.2.1; have := s.1; omega, fun w hw => ?_⟩
    obtain ⟨j, j1, j2, rfl⟩ := rga_mem.mp hw
    obtain ⟨v, t⟩ := hR.2.2.2.2.2.1 j (by omega)
    exact ⟨v.1, _, v.2.1, t.1⟩
  · rw [if_neg c1, if_neg c1, if_neg c1]
    obtain ⟨g1, g2, g3, g4, g5, g6, g7, g8, n0, n1, n2, n3, n4⟩ := hR.2.2.1
    have gn : ∀ j, j < 5 → G.1 (ad 23 j) = 1 := fun j hj => by
      rcases (show j = 0 ∨ j = 1 ∨ j = 2 ∨ j = 3 ∨ j = 4 by omega) with rfl | rfl | rfl | rfl | rfl
      · exact n0.1
      · exact n1.1
      · exact n2.1
      · exact n3.1
      · exact n4.1
    rcases (show i = 0 ∨ i = 1 by omega) with rfl | rfl
    · refine ⟨g1.1, g1.2.2.2.2.1, g5, (show 3 < 1000 by decide), fun w hw => ?_⟩
      have hw : w ∈ [ad 22 0, ad 22 1, ad 22 2] := hw
      simp only [List.mem_cons, List.not_mem_nil, or_false] at hw
      rcases hw with rfl | rfl | rfl
      · exact ⟨(g8 0 (by decide)).1, _, (g8 0 (by decide)).2.1, gn 0 (by decide)⟩
      · exact ⟨(g8 1 (by decide)).1, _, (g8 1 (by decide)).2.1, gn 1 (by decide)⟩
      · exact ⟨(g8 2 (by decide)).1, _, (g8 2 (by decide)).2.1, gn 2 (by decide)⟩
    · refine ⟨g2.1, g2.2.2.2.2.1, g6, (show 2 < 1000 by decide), fun w hw => ?_⟩
      have hw : w ∈ [ad 22 3, ad 22 4] := hw
      simp only [List.mem_cons, List.not_mem_nil, or_false] at hw
      rcases hw with rfl | rfl
      · exact ⟨(g8 3 (by decide)).1, _, (g8 3 (by decide)).2.1, gn 3 (by decide)⟩
      · exact ⟨(g8 4 (by decide)).1, _, (g8 4 (by decide)).2.1, gn 4 (by decide)⟩
theorem KC.pp_lt (h : KC ft tv gw gp nv T fk pp nn fh fl P) {t : Nat} (ht : t ≤ T) : pp t < 2 ^ 31 := by
  rw [(h.1.2.2.2 t ht).1]
  have := h.2.1.2.2.2.2.2 t
  omega
/-- a link's parts, for what looks at it -/
theorem lnk_f (hR : RF t0 qc qna qdf ft tv fh fl pp nn G ad tg P) (h : KC ft tv gw gp nv T fk pp nn fh fl P) (wb : WB G ad P) (hi : inl P c q l) : G.1 (ad 12 l) = 4 ∧ G.2.2.2.2.2 (ad 12 l) 0 = some (ad 13 l) ∧ G.1 (ad 13 l) = 3 ∧ G.2.2.2.2.2 (ad 13 l) 0 = some (ad 14 l) ∧ isT fh fl pp G (ad 14 l) (P.2.2.1 28 l) ∧ (∀ z, G.2.2.1 (ad 13 l) 2 = some z → z < 2 ^ 31) ∧ G.2.1 (ad 13 l) 3 < 100 ∧ G.2.1 (ad 13 l) 4 < 100 ∧ ∀ p, G.2.2.2.2.2 (ad 12 l) 3 = some p → G.1 p = 2 ∧ G.2.1 p 1 < 3 ∧ G.2.1 p 2 ≤ 16 ∧ G.2.1 p 5 < 65536 := by
  obtain ⟨hq, hl⟩ := h.inl hi
  have tl := h.ln l hl
  obtain ⟨k1, k2, k3, -, -, -⟩ := hR.2.2.2.2.2.2.2.2.1 c q l hi
  have ab := h.2.1.1.1
  refine ⟨k1.1, k1.2.1, k2.1, k2.2.1, k3, fun z hz => ?_, ?_, ?_, fun p hp => ?_⟩
  · rw [k2.2.2.2.1] at hz
    rcases e : P.2.2.2.1 29 l with _ | y
    · rw [e] at hz; cases hz
    · rw [e] at hz; cases hz
      have := (h.2.2.1.1.2.2.1.lk l hl).2.2.2.1 y e
      exact h.pp_lt (by omega)
  · rw [k2.2.2.2.2.1]; exact ab 30 l (by decide) (by decide)
  · rw [k2.2.2.2.2.2]; exact ab 31 l (by decide) (by decide)
  · rw [k1.2.2.2] at hp
    unfold wrk at hp
    split at hp
    · rcases eo : q_own ft P c (P.2.2.1 32 l) with _ | z
      · rw [eo] at hp
        have hp : (q_inn ft P c (P.2.2.1 32 l)).map (ad 7) = some p := hp
        rcases ei : q_inn ft P c (P.2.2.1 32 l) with _ | y
        · rw [ei] at hp; cases hp
        · rw [ei] at hp; cases hp
          have b := m_find_in _ _ _ ei
          have b2 := h.p36 hi.1
          have hy : y < P.1 37 := by omega
          obtain ⟨v, -⟩ := hR.2.2.2.2.2.2.1 y hy
          exact ⟨v.1, by rw [v.2.2]; decide, (wb.2.1 y hy).2, (wb.2.1 y hy).1⟩
      · rw [eo] at hp; cases hp
        have b := m_find_in _ _ _ eo
        have b2 := h.p17 hi.1
        have hz : z < P.1 18 := by omega
        obtain ⟨v, -⟩ := hR.2.2.2.2.2.1 z hz
        exact ⟨v.1, by rw [v.2.2.1]; split <;> decide, by rw [v.2.2.2.1]; exact (h.w21 z hz).2, wb.1 z hz⟩
    · cases hp
theorem pin_h (hR : RF t0 qc qna qdf ft tv fh fl pp nn G ad tg P) (h : KC ft tv gw gp nv T fk pp nn fh fl P) (wb : WB G ad P) (hi : i < P.1 15 + 2) {t : Nat} (ht : t ≤ T) (k : P.2.2.1 7 t = 1) : ∀ p, (q_pin ft gp P i t).map (pad ad i) = some p → G.1 p = 2 ∧ G.2.1 p 1 < 3 ∧ G.2.1 p 2 ≤ 16 ∧ G.2.1 p 5 < 65536 := fun p hp => by
  rcases e : q_pin ft gp P i t with _ | x
  · rw [e] at hp; cases hp
  · rw [e] at hp; cases hp
    obtain ⟨a1, a2, a3, a4, a5⟩ := pad_f hR h hi ht k e
    refine ⟨a1, by rw [a2]; split <;> decide, by rw [a3]; exact a4.2, ?_⟩
    unfold pad
    by_cases c1 : 1 < i
    · rw [if_pos c1] at a5 ⊢; exact wb.1 x a5
    · rw [if_neg c1] at a5 ⊢
      split
      · exact wb.2.2 x (by omega)
      · have : x < 2 := by
          unfold q_pin at e
          rw [if_neg c1, if_neg (by assumption)] at e
          split at e
          · cases e; decide
          · split at e
            · cases e; decide
            · cases e
        exact wb.2.2 (3 + x) (by omega)
def RSP (t0 qc qna qdf : Nat) (ft tv gp : Nat → Int32) (fh fl : Nat → Int64) (pp nn : Nat → Nat) (ad : Nat → Nat → Nat) (tg : Nat → Nat × Nat) (P : PS) (L : List Nat) (id : Nat) (G0 G : PG) (S : PS) (qd ld : Nat) : Prop :=
  RF t0 qc qna qdf ft tv fh fl pp nn G ad tg P ∧ WB G ad P ∧ gL L G ∧ rq P ad id G0 G ∧ kp P S ∧ RSV ft gp P ad G S qd ld id
theorem gL.sq (h : gL L G) (s : sq G G') : gL L G' := fun b hb => h b (by rw [← s.1]; exact hb)
theorem RSP.part (r : RSP t0 qc qna qdf ft tv gp fh fl pp nn ad tg P L id G0 G S q ld) (h : KC ft tv gw gp nv T fk pp nn fh fl P) (hq : q < P.1 24) (hl : ld ≤ P.2.2.1 26 q) :
    RSP t0 qc qna qdf ft tv gp fh fl pp nn ad tg P L id G0 (gR G (ad 9 q) 2 ((q_chip ft gw P (P.2.2.1 25 q)).map (cad ad))) (fi_is ft gw q S) (q + 1) ld ∧ (fi_is ft gw q S).2.2.2.1 44 q = q_chip ft gw P (P.2.2.1 25 q) := by
  obtain ⟨hR, wb, hL, hr, hk, rs⟩ := r
  obtain ⟨a, b, d⟩ := part_rs hR h hk hq hl rs
  exact ⟨⟨hR.sq b.1, wb, hL.sq b.1, hr.tr b, kp_tr hk (kp_aos (Or.inr rfl)), a⟩, d⟩
theorem RSP.link (r : RSP t0 qc qna qdf ft tv gp fh fl pp nn ad tg P L id G0 G S (q + 1) l) (h : KC ft tv gw gp nv T fk pp nn fh fl P) (hi : inl P c q l) (hid : id = P.2.2.1 36 (c + 1)) (h44 : S.2.2.2.1 44 q = some i) :
    RSP t0 qc qna qdf ft tv gp fh fl pp nn ad tg P L id G0 (gvi (gR G (ad 12 l) 2 ((q_pin ft gp P i (P.2.2.1 28 l)).map (pad ad i))) (ad 12 l) (ad 13 l)) (fi_link ft gp c i l S) (q + 1) (l + 1) ∧ (fi_link ft gp c i l S).2.2.2.1 44 q = some i := by
  obtain ⟨hR, wb, hL, hr, hk, rs⟩ := r
  obtain ⟨a, b, d, e⟩ := link_rs hR h hk hi hid h44 rs wb
  exact ⟨⟨hR.sq b.1, d, hL.sq b.1, hr.tr b, kp_tr hk (kp_filink _ _ _ _ _ _), a⟩, by rw [e]; exact h44⟩
theorem RSP.up (r : RSP t0 qc qna qdf ft tv gp fh fl pp nn ad tg P L id G0 G S (q + 1) ld) {ld' : Nat} (hn : S.2.2.2.1 44 q = none) (hld : ld = P.2.2.1 26 q) (hm : ∀ q', q' < q → P.2.2.1 26 (q' + 1) ≤ ld) : RSP t0 qc qna qdf ft tv gp fh fl pp nn ad tg P L id G0 G S (q + 1) ld' := by
  obtain ⟨hR, wb, hL, hr, hk, r1, r2, r3⟩ := r
  refine ⟨hR, wb, hL, hr, hk, r1, fun q' l i a b d e f => ?_, r3⟩
  by_cases z : q' = q
  · rw [z, hn] at f; cases f
  · exact r2 q' l i a (by have := hm q' (by omega); omega) d e f
end RSX
