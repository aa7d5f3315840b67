section LNG
variable {t0 qc qna qdf : Nat} {ft tv gw gp : Nat → Int32} {nv : Nat → Nat} {T : Nat} {fk : Nat → Int32} {pp nn : Nat → Nat} {fh fl : Nat → Int64} {G G' : PG} {ad : Nat → Nat → Nat} {tg : Nat → Nat × Nat} {P S : PS} {c q l i x y ld : Nat}
/-- a link's right side, and what a side without a range says -/
theorem lnk_g (hR : RF t0 qc qna qdf ft tv fh fl pp nn G ad tg P) (h : KC ft tv gw gp nv T fk pp nn fh fl P) (hi : inl P c q l) : G.2.2.2.2.2 (ad 12 l) 1 = some (ad 15 l) ∧ G.2.2.2.2.2 (ad 12 l) 3 = wrk ft ad P c l ∧ G.1 (ad 15 l) = 3 ∧ G.2.2.2.2.2 (ad 15 l) 0 = some (ad 16 l) ∧ isT fh fl pp G (ad 16 l) (P.2.2.1 32 l) ∧ (∀ z, G.2.2.1 (ad 15 l) 2 = some z → z < 2 ^ 31) ∧ G.2.1 (ad 15 l) 3 < 100 ∧ G.2.1 (ad 15 l) 4 < 100 ∧ (G.2.2.1 (ad 15 l) 2 = none → G.2.1 (ad 15 l) 3 = 0 ∧ G.2.1 (ad 15 l) 4 = 0) ∧ (G.2.2.1 (ad 13 l) 2 = none → G.2.1 (ad 13 l) 3 = 0 ∧ G.2.1 (ad 13 l) 4 = 0) ∧ ∀ z, G.2.2.1 (ad 16 l) 2 = some z → z < 2 ^ 31 := by
  obtain ⟨hq, hl⟩ := h.inl hi
  have tl := h.ln l hl
  obtain ⟨k1, k2, k3, k4, k5, -⟩ := hR.2.2.2.2.2.2.2.2.1 c q l hi
  have ab := h.2.1.1.1
  have lk := h.2.2.1.1.2.2.1.lk l hl
  have l12 := h.l12
  refine ⟨k1.2.2.1, k1.2.2.2, k4.1, k4.2.1, k5, fun z hz => ?_, ?_, ?_, fun e => ?_, fun e => ?_, fun z hz => ?_⟩
  · rw [k4.2.2.2.1] at hz
    rcases e : P.2.2.2.1 33 l with _ | y
    · rw [e] at hz; cases hz
    · rw [e] at hz; cases hz
      have := lk.2.2.2.2.1 y e
      exact h.pp_lt (by omega)
  · rw [k4.2.2.2.2.1]; unfold rl0; split
    · exact ab 34 l
    · decide
  · rw [k4.2.2.2.2.2]; unfold rl0; split
    · exact ab 35 l
    · decide
  · rw [k4.2.2.2.1] at e
    have e33 : P.2.2.2.1 33 l = none := by
      rcases z : P.2.2.2.1 33 l with _ | y
      · rfl
      · rw [z] at e; cases e
    rw [k4.2.2.2.2.1, k4.2.2.2.2.2]
    unfold rl0
    by_cases k7 : P.2.2.1 7 (P.2.2.1 32 l) = 1
    · rw [if_pos k7, if_pos k7]
      rcases lk.2.2.2.2.2.2 with r | r
      · exact r.2 e33
      · omega
    · rw [if_neg k7, if_neg k7]; exact ⟨rfl, rfl⟩
  · rw [k2.2.2.2.1] at e
    have e29 : P.2.2.2.1 29 l = none := by
      rcases z : P.2.2.2.1 29 l with _ | y
      · rfl
      · rw [z] at e; cases e
    rw [k2.2.2.2.2.1, k2.2.2.2.2.2]
    exact lk.2.2.2.2.2.1 e29
  · rw [k5.2.2.2] at hz
    cases hz
    exact h.pp_lt tl.2.2
end LNG
