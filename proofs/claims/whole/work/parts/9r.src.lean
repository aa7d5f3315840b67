section LKR
variable {t0 qc qna qdf : Nat} {ft tv gw gp : Nat → Int32} {nv : Nat → Nat} {T : Nat} {fk : Nat → Int32} {pp nn : Nat → Nat} {fh fl : Nat → Int64} {G : PG} {ad : Nat → Nat → Nat} {tg : Nat → Nat × Nat} {P S S' : PS} {c q l i x y ld v a b : Nat}
theorem ars_k {k k' j j' : Nat} (h : ¬ (k' = k ∧ j' = j)) : (ars S k j v).2.2.1 k' j' = S.2.2.1 k' j' := by
  show (if k' = k then (fun i => if i = j then v else S.2.2.1 k i) else S.2.2.1 k') j' = _
  by_cases e : k' = k
  · subst e; rw [if_pos rfl]; exact if_neg (fun r => h ⟨rfl, r⟩)
  · rw [if_neg e]
theorem ars_s {k j : Nat} : (ars S k j v).2.2.1 k j = v := by
  show (if k = k then (fun i => if i = j then v else S.2.2.1 k i) else S.2.2.1 k) j = _
  rw [if_pos rfl]; exact if_pos rfl
theorem abs_k {k k' j j' : Nat} {w : Bool} (h : ¬ (k' = k ∧ j' = j)) : (abs_ S k j w).2.2.2.2 k' j' = S.2.2.2.2 k' j' := by
  show (if k' = k then (fun i => if i = j then w else S.2.2.2.2 k i) else S.2.2.2.2 k') j' = _
  by_cases e : k' = k
  · subst e; rw [if_pos rfl]; exact if_neg (fun r => h ⟨rfl, r⟩)
  · rw [if_neg e]
theorem abs_s {k j : Nat} {w : Bool} : (abs_ S k j w).2.2.2.2 k j = w := by
  show (if k = k then (fun i => if i = j then w else S.2.2.2.2 k i) else S.2.2.2.2 k) j = _
  rw [if_pos rfl]; exact if_pos rfl
theorem lk_own (hR : RF t0 qc qna qdf ft tv fh fl pp nn G ad tg P) (h : KC ft tv gw gp nv T fk pp nn fh fl P) (hc : c < P.1 15) (hi : i < P.1 15 + 2) (lk : LK ft gp P ad c G S i ld) (h1 : P.2.2.1 17 c ≤ x) (h2 : x < P.2.2.1 17 (c + 1)) (ho : P.2.2.2.2 19 x = true) : LK ft gp P ad c (gN G (ad 5 x) 5 v) (ars S 49 x v) i ld ∧ lq P ad c G (gN G (ad 5 x) 5 v) := by
  have b17 := h.p17 hc
  have b36 := h.p36 hc
  obtain ⟨l1, l2, l3, l4⟩ := lk
  refine ⟨⟨fun p a d e => ?_, fun y a d => ?_, fun x' hx' => ?_, fun q l i x y a o => l4 q l i x y a ((ol_44 rfl).mp o)⟩, lq_N (hR.1 5 x (show x < P.1 18 by omega)).1 (fun p a d _ => hR.1.ne (show p < cno P 5 from d) (show x < cno P 5 by show x < P.1 18; omega) (by omega)) (fun y _ d => hR.1.ne (show y < cno P 7 from d) (show x < cno P 5 by show x < P.1 18; omega) (by omega))⟩
  · by_cases z : p = x
    · rw [z, n5_s, ars_s]
    · rw [n5_a (hR.1.ne (show p < cno P 5 by show p < P.1 18; omega) (show x < cno P 5 by show x < P.1 18; omega) (by omega)), ars_k (fun r => z r.2)]; exact l1 p a d e
  · rw [n5_a (hR.1.ne (show y < cno P 7 by show y < P.1 37; omega) (show x < cno P 5 by show x < P.1 18; omega) (by omega))]; exact l2 y a d
  · rw [n5_a (Ne.symm ((pad_ne hR h hi hx').2.1 x (by omega) ho)), ars_k (fun r => absurd r.1 (by decide))]; exact l3 x' hx'
theorem lk_inn (hR : RF t0 qc qna qdf ft tv fh fl pp nn G ad tg P) (h : KC ft tv gw gp nv T fk pp nn fh fl P) (hc : c < P.1 15) (hi : i < P.1 15 + 2) (lk : LK ft gp P ad c G S i ld) (h1 : P.2.2.1 36 c ≤ y) (h2 : y < P.2.2.1 36 (c + 1)) (hv : v ≠ 0) : LK ft gp P ad c (gN G (ad 7 y) 5 v) (abs_ S 40 y true) i ld ∧ lq P ad c G (gN G (ad 7 y) 5 v) := by
  have b17 := h.p17 hc
  have b36 := h.p36 hc
  obtain ⟨l1, l2, l3, l4⟩ := lk
  refine ⟨⟨fun p a d e => ?_, fun y' a d => ?_, fun x' hx' => ?_, fun q l i x y' a o => ?_⟩, lq_N (hR.1 7 y (show y < P.1 37 by omega)).1 (fun p a d _ => hR.1.ne (show p < cno P 5 from d) (show y < cno P 7 by show y < P.1 37; omega) (by omega)) (fun y' _ d => hR.1.ne (show y' < cno P 7 from d) (show y < cno P 7 by show y < P.1 37; omega) (by omega))⟩
  · rw [n5_a (hR.1.ne (show p < cno P 5 by show p < P.1 18; omega) (show y < cno P 7 by show y < P.1 37; omega) (by omega))]; exact l1 p a d e
  · by_cases z : y' = y
    · rw [z, n5_s, abs_s]; exact ⟨fun _ => rfl, fun _ => hv⟩
    · rw [n5_a (hR.1.ne (show y' < cno P 7 by show y' < P.1 37; omega) (show y < cno P 7 by show y < P.1 37; omega) (by omega)), abs_k (fun r => z r.2)]; exact l2 y' a d
  · rw [n5_a (Ne.symm ((pad_ne hR h hi hx').2.2.1 y (by omega)))]; exact l3 x' hx'
  · by_cases z : y' = y
    · rw [z]; exact abs_s
    · rw [abs_k (fun r => z r.2)]; exact l4 q l i x y' a ((ol_44 rfl).mp o)
theorem lk_in (hR : RF t0 qc qna qdf ft tv fh fl pp nn G ad tg P) (h : KC ft tv gw gp nv T fk pp nn fh fl P) (hc : c < P.1 15) (hi : i < P.1 15 + 2) (lk : LK ft gp P ad c G S i ld) (hx : vpn P i x) : LK ft gp P ad c (gN G (pad ad i x) 5 v) (ars S 48 x v) i ld ∧ lq P ad c G (gN G (pad ad i x) 5 v) := by
  have b17 := h.p17 hc
  have b36 := h.p36 hc
  obtain ⟨l1, l2, l3, l4⟩ := lk
  obtain ⟨p1, p2, p3, p4⟩ := pad_ne hR h hi hx
  refine ⟨⟨fun p a d e => ?_, fun y a d => ?_, fun x' hx' => ?_, fun q l i x y a o => l4 q l i x y a ((ol_44 rfl).mp o)⟩, lq_N p1 (fun p _ d e => p2 p d e) (fun y _ d => p3 y d)⟩
  · rw [n5_a (p2 p (by omega) e), ars_k (fun r => absurd r.1 (by decide))]; exact l1 p a d e
  · rw [n5_a (p3 y (by omega))]; exact l2 y a d
  · by_cases z : x' = x
    · rw [z, n5_s, ars_s]
    · rw [n5_a (fun e => z (p4 x' hx' e)), ars_k (fun r => z r.2)]; exact l3 x' hx'
theorem LK.up (lk : LK ft gp P ad c G S i l) (hn : ∀ q i x y, ol ft gp P S c q l i x y → S.2.2.2.2 40 y = true) : LK ft gp P ad c G S i (l + 1) := by
  obtain ⟨l1, l2, l3, l4⟩ := lk
  refine ⟨l1, l2, l3, fun q l' i x y a o => ?_⟩
  by_cases e : l' = l
  · subst e; exact hn q i x y o
  · exact l4 q l' i x y (by omega) o
/-- the right side of a link: as the class sees it -/
theorem kr_e (hk : kp P S) (ob : Bool) : kr_ ft c l ob b S = if P.2.2.1 7 (P.2.2.1 32 l) = 1 then (match q_own ft P c (P.2.2.1 32 l) with
    | some x => kr_pin l x ob b S
    | none => match q_inn ft P c (P.2.2.1 32 l) with
      | none => (none, S)
      | some y => kr_in l y ob b S) else if ob = true then (some (4, P.2.2.1 32 l), S) else (none, S) := by
  unfold kr_
  rw [q_own_kp hk, q_inn_kp hk, hk.2.1 7 (by decide) (by decide), hk.2.1 32 (by decide) (by decide)]
  split
  · rcases q_own ft P c (P.2.2.1 32 l) with _ | x
    · rcases q_inn ft P c (P.2.2.1 32 l) with _ | y <;> rfl
    · rfl
  · rfl
theorem rt_side (hR : RF t0 qc qna qdf ft tv fh fl pp nn G ad tg P) (h : KC ft tv gw gp nv T fk pp nn fh fl P) (hi : inl P c q l) (k7 : P.2.2.1 7 (P.2.2.1 32 l) = 1) : G.2.2.1 (ad 15 l) 2 = (P.2.2.2.1 33 l).map pp ∧ G.2.1 (ad 15 l) 3 = P.2.2.1 34 l ∧ G.2.1 (ad 15 l) 4 = P.2.2.1 35 l ∧ q_low (P.2.2.2.1 33 l) (P.2.2.1 34 l) = P.2.2.1 34 l := by
  obtain ⟨-, -, -, k4, -, -⟩ := hR.2.2.2.2.2.2.2.2.1 c q l hi
  refine ⟨k4.2.2.2.1, by rw [k4.2.2.2.2.1]; exact if_pos k7, by rw [k4.2.2.2.2.2]; exact if_pos k7, ?_⟩
  have lk := (h.2.2.1.1.2.2.1.lk l (h.inl hi).2).2.2.2.2.2.2
  unfold q_low
  split
  · rename_i e
    rcases lk with r | r
    · exact (r.2 e).1.symm
    · omega
  · rfl
theorem src_cmp (hR : RF t0 qc qna qdf ft tv fh fl pp nn G ad tg P) (h : KC ft tv gw gp nv T fk pp nn fh fl P) (hk : kp P S) (hi : inl P c q l) (r3 : ∀ y, y < P.2.2.1 36 (c + 1) → (S.2.2.2.1 39 y = some 0 → G.2.2.2.1 (ad 7 y) 6 = false) ∧ (S.2.2.2.1 39 y ≠ some 0 → G.2.2.2.1 (ad 7 y) 6 = true ∧ G.2.1 (ad 7 y) 2 = (S.2.2.2.1 39 y).getD 0)) :
    cks G (wrk ft ad P c l) (ad 15 l) b (some (pp (P.2.2.1 32 l))) = fpt pp (kr_ ft c l false b S).1 ∧ (kr_ ft c l false b S).2 = S := by
  rw [kr_e hk]
  have b17 := h.p17 hi.1
  have b36 := h.p36 hi.1
  by_cases k7 : P.2.2.1 7 (P.2.2.1 32 l) = 1
  · obtain ⟨s1, s2, s3, s4⟩ := rt_side hR h hi k7
    have ew : wrk ft ad P c l = (match q_own ft P c (P.2.2.1 32 l) with | some x => some (ad 5 x) | none => (q_inn ft P c (P.2.2.1 32 l)).map (ad 7)) := if_pos k7
    rw [if_pos k7, ew]
    rcases eo : q_own ft P c (P.2.2.1 32 l) with _ | z
    · rcases ei : q_inn ft P c (P.2.2.1 32 l) with _ | y
      · exact ⟨rfl, rfl⟩
      · have by_ := m_find_in _ _ _ ei
        obtain ⟨w1, -⟩ := hR.2.2.2.2.2.2.1 y (by omega)
        obtain ⟨i1, i2⟩ := r3 y (by omega)
        show (if G.2.1 (ad 7 y) 1 = 1 ∨ (G.2.1 (ad 7 y) 1 = 2 ∧ G.2.2.2.1 (ad 7 y) 6 = false) then some (4, some (pp (P.2.2.1 32 l))) else if rir G (ad 7 y) (ad 15 l) = true then (if G.2.1 (ad 7 y) 2 = 0 ∨ m_bits (G.2.2.1 (ad 15 l) 2) (G.2.1 (ad 15 l) 3) (G.2.1 (ad 15 l) 4) (G.2.1 (ad 7 y) 2) = b then none else some (5, some (pp (P.2.2.1 32 l)))) else some (5, G.2.2.1 (ad 15 l) 2)) = fpt pp (kr_in l y false b S).1 ∧ (kr_in l y false b S).2 = S
        have er : rir G (ad 7 y) (ad 15 l) = decide ((P.2.2.2.1 33 l).map pp = none) := by unfold rir; rw [if_pos w1.2.2, s1]
        unfold kr_in
        rw [er, w1.2.2, hk.2.1 32 (by decide) (by decide), hk.2.2.1 33 (by decide) (by decide), if_neg (show ¬ false = true by decide)]
        by_cases g0 : S.2.2.2.1 39 y = some 0
        · rw [if_pos g0, if_pos (Or.inr ⟨rfl, i1 g0⟩)]; exact ⟨rfl, rfl⟩
        · rw [if_neg g0, if_neg (fun q9 => by rcases q9 with q9 | q9; omega; rw [(i2 g0).1] at q9; cases q9.2)]
          rw [s1]
          rcases e33 : P.2.2.2.1 33 l with _ | t
          · rw [if_pos (show decide (Option.map pp none = none) = true from rfl), (i2 g0).2]
            show (if (S.2.2.2.1 39 y).getD 0 = 0 ∨ m_bits none (G.2.1 (ad 15 l) 3) (G.2.1 (ad 15 l) 4) ((S.2.2.2.1 39 y).getD 0) = b then (none : Option (Nat × Option Nat)) else some (5, some (pp (P.2.2.1 32 l)))) = fpt pp (if S.2.2.2.1 39 y = none ∨ S.2.2.2.1 39 y = some b then none else some (5, P.2.2.1 32 l)) ∧ S = S
            refine ⟨?_, rfl⟩
            rcases e39 : S.2.2.2.1 39 y with _ | w
            · rw [if_pos (show (none : Option Nat).getD 0 = 0 ∨ m_bits none (G.2.1 (ad 15 l) 3) (G.2.1 (ad 15 l) 4) ((none : Option Nat).getD 0) = b from Or.inl rfl), if_pos (Or.inl rfl)]; rfl
            · rw [e39] at g0
              have w0 : w ≠ 0 := fun e => g0 (by rw [e])
              by_cases wb_ : w = b
              · rw [if_pos (show (some w).getD 0 = 0 ∨ m_bits none (G.2.1 (ad 15 l) 3) (G.2.1 (ad 15 l) 4) ((some w).getD 0) = b from Or.inr wb_), if_pos (Or.inr (by rw [wb_]))]; rfl
              · rw [if_neg (show ¬ ((some w).getD 0 = 0 ∨ m_bits none (G.2.1 (ad 15 l) 3) (G.2.1 (ad 15 l) 4) ((some w).getD 0) = b) from fun q9 => by rcases q9 with q9 | q9; exact w0 q9; exact wb_ q9), if_neg (fun q9 => by rcases q9 with q9 | q9; cases q9; exact wb_ (Option.some.inj q9))]; rfl
          · rw [if_neg (show ¬ decide (Option.map pp (some t) = none) = true by simp)]; exact ⟨rfl, rfl⟩
    · have bz := m_find_in _ _ _ eo
      have hz : z < P.1 18 := by omega
      obtain ⟨v, -⟩ := hR.2.2.2.2.2.1 z hz
      have w21 := h.w21 z hz
      show (if G.2.1 (ad 5 z) 1 = 1 ∨ (G.2.1 (ad 5 z) 1 = 2 ∧ G.2.2.2.1 (ad 5 z) 6 = false) then some (4, some (pp (P.2.2.1 32 l))) else if rir G (ad 5 z) (ad 15 l) = true then (if G.2.1 (ad 5 z) 2 = 0 ∨ m_bits (G.2.2.1 (ad 15 l) 2) (G.2.1 (ad 15 l) 3) (G.2.1 (ad 15 l) 4) (G.2.1 (ad 5 z) 2) = b then none else some (5, some (pp (P.2.2.1 32 l)))) else some (5, G.2.2.1 (ad 15 l) 2)) = fpt pp (kr_pin l z false b S).1 ∧ (kr_pin l z false b S).2 = S
      unfold kr_pin
      rw [hk.2.1 32 (by decide) (by decide), hk.2.2.1 33 (by decide) (by decide), hk.2.1 34 (by decide) (by decide), hk.2.1 35 (by decide) (by decide), hk.2.1 21 (by decide) (by decide), hk.2.2.2 19 (by decide)]
      by_cases ho : P.2.2.2.2 19 z = true
      · rw [if_pos (Or.inl (by rw [v.2.2.1, if_pos ho])), if_neg (by rw [ho]; decide)]; exact ⟨rfl, rfl⟩
      · have ev : G.2.1 (ad 5 z) 1 = 0 := by rw [v.2.2.1, if_neg ho]
        have er : rir G (ad 5 z) (ad 15 l) = m_fits (P.2.2.2.1 33 l) (P.2.2.1 34 l) (P.2.2.1 35 l) (P.2.2.1 21 z) := by unfold rir; rw [if_neg (by rw [ev]; decide), s1, s2, s3, v.2.2.2.1, (fits_map pp).1]
        rw [if_neg (fun q9 => by rw [ev] at q9; omega), if_pos (Bool.eq_false_iff.mpr ho), er, s1, s2, s3, v.2.2.2.1, (fits_map pp).2]
        by_cases hf : m_fits (P.2.2.2.1 33 l) (P.2.2.1 34 l) (P.2.2.1 35 l) (P.2.2.1 21 z) = true
        · rw [if_pos hf, if_pos hf, if_neg (show ¬ false = true by decide)]
          by_cases hb : m_bits (P.2.2.2.1 33 l) (P.2.2.1 34 l) (P.2.2.1 35 l) (P.2.2.1 21 z) = b
          · rw [if_pos (Or.inr hb), if_pos hb]; exact ⟨rfl, rfl⟩
          · rw [if_neg (fun q9 => by rcases q9 with q9 | q9; omega; exact hb q9), if_neg hb]; exact ⟨rfl, rfl⟩
        · rw [if_neg hf, if_neg hf]
          refine ⟨?_, rfl⟩
          rcases e33 : P.2.2.2.1 33 l with _ | t
          · rw [e33] at hf; exact absurd rfl hf
          · rfl
  · have ew : wrk ft ad P c l = none := if_neg k7
    rw [if_neg k7, ew, if_neg (by decide)]
    exact ⟨rfl, rfl⟩
end LKR
