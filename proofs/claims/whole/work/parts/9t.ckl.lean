section CKL
variable {t0 qc qna qdf : Nat} {ft tv gw gp : Nat → Int32} {nv : Nat → Nat} {T : Nat} {fk : Nat → Int32} {pp nn : Nat → Nat} {fh fl : Nat → Int64} {G : PG} {ad : Nat → Nat → Nat} {tg : Nat → Nat × Nat} {P S S' : PS} {c q l i x y ld v a b : Nat}
theorem kl_link_e (hk : kp P S) : kl_link ft gp c i l S = match q_pin ft gp P i (P.2.2.1 28 l) with
  | none => (some (4, P.2.2.1 28 l), S)
  | some x => match q_lb P i x l with
    | none => (some (5, (P.2.2.2.1 29 l).getD 0), S)
    | some b => if m_isOut (P.2.2.2.2 19) i x = true then kr_ ft c l true b S
      else if S.2.2.1 48 x &&& q_ls P i x l = 0 then kr_ ft c l false b (ars S 48 x (S.2.2.1 48 x ||| q_ls P i x l)) else (some (3, P.2.2.1 28 l), S) := by
  unfold kl_link cl_3 q_lb q_ls
  rw [q_pin_kp hk, hk.2.1 28 (by decide) (by decide), hk.2.2.2 19 (by decide), hk.2.2.1 29 (by decide) (by decide), hk.2.1 30 (by decide) (by decide), hk.2.1 31 (by decide) (by decide), hk.2.1 21 (by decide) (by decide)]
  rcases q_pin ft gp P i (P.2.2.1 28 l) with _ | x
  · rfl
  · show (match (if m_fits (P.2.2.2.1 29 l) (P.2.2.1 30 l) (P.2.2.1 31 l) (m_wd (P.2.2.1 21) i x) = true then some (m_bits (P.2.2.2.1 29 l) (P.2.2.1 30 l) (P.2.2.1 31 l) (m_wd (P.2.2.1 21) i x)) else none) with | none => _ | some b => _) = (match (if m_fits (P.2.2.2.1 29 l) (P.2.2.1 30 l) (P.2.2.1 31 l) (m_wd (P.2.2.1 21) i x) = true then some (m_bits (P.2.2.2.1 29 l) (P.2.2.1 30 l) (P.2.2.1 31 l) (m_wd (P.2.2.1 21) i x)) else none) with | none => _ | some b => _)
    split <;> rfl
theorem pin_vpn (h : KC ft tv gw gp nv T fk pp nn fh fl P) (hi : i < P.1 15 + 2) {t : Nat} (ht : t ≤ T) (k : P.2.2.1 7 t = 1) (e : q_pin ft gp P i t = some x) (ho : m_isOut (P.2.2.2.2 19) i x = false) : vpn P i x := by
  refine ⟨?_, ho⟩
  unfold q_pin at e
  by_cases c1 : 1 < i
  · rw [if_pos c1] at e ⊢
    have m := m_find_in _ _ _ e
    have b := h.p17 (c := i - 2) (by omega)
    omega
  · rw [if_neg c1] at e ⊢
    obtain ⟨a1, -⟩ := h.1.k1 ht k
    have ew : q_word gp 11 ft P t = wix (wd ft (P.2.2.1 8 t) (P.2.2.1 9 t)) gpl 0 := m_word_ix a1 gpl 11 0 0 h.2.2.2.2 (by decide)
    have el : gpl.length = 4 := rfl
    by_cases i0 : i = 0
    · rw [if_pos i0] at e ⊢
      split at e
      · cases e
      · rename_i q
        have := wix_in _ _ _ _ (ew.symm.trans e)
        have : x ≠ 3 := fun r => q (by rw [e, r])
        omega
    · rw [if_neg i0] at e ⊢
      split at e
      · cases e; decide
      · split at e
        · cases e; decide
        · cases e
theorem ckl_cmp (hR : RF t0 qc qna qdf ft tv fh fl pp nn G ad tg P) (h : KC ft tv gw gp nv T fk pp nn fh fl P) (hk : kp P S) (hi : inl P c q l) (r3 : ∀ y, y < P.2.2.1 36 (c + 1) → (S.2.2.2.1 39 y = some 0 → G.2.2.2.1 (ad 7 y) 6 = false) ∧ (S.2.2.2.1 39 y ≠ some 0 → G.2.2.2.1 (ad 7 y) 6 = true ∧ G.2.1 (ad 7 y) 2 = (S.2.2.2.1 39 y).getD 0))
    (fo : FO ft gp P S c ld) (hld : l < ld) (h44 : S.2.2.2.1 44 q = some i) (hi2 : i < P.1 15 + 2) (wb : WB G ad P) (lk : LK ft gp P ad c G S i l) {X : Option (Nat × Option Nat) × PG} (hX : X = ckl G ((q_pin ft gp P i (P.2.2.1 28 l)).map (pad ad i)) (wrk ft ad P c l) (ad 13 l) (ad 15 l) (some (pp (P.2.2.1 28 l))) (some (pp (P.2.2.1 32 l)))) :
    X.1 = fpt pp (kl_link ft gp c i l S).1 ∧ lq P ad c G X.2 ∧ WB X.2 ad P ∧ (kl_link ft gp c i l S).2.2.2.2.1 = S.2.2.2.1 ∧ ((kl_link ft gp c i l S).1 = none → LK ft gp P ad c X.2 (kl_link ft gp c i l S).2 i (l + 1)) := by
  subst hX
  have eK0 := kl_link_e (ft := ft) (gp := gp) (c := c) (i := i) (l := l) hk
  have tl := h.ln l (h.inl hi).2
  have lqr := lq.rf P ad c G
  obtain ⟨-, k2, -⟩ := hR.2.2.2.2.2.2.2.2.1 c q l hi
  have s1 := k2.2.2.2.1
  have s2 := k2.2.2.2.2.1
  have s3 := k2.2.2.2.2.2
  have n29 := (h.2.2.1.1.2.2.1.lk l (h.inl hi).2).2.2.2.2.2.1
  rcases ep : q_pin ft gp P i (P.2.2.1 28 l) with _ | x
  · simp only [ep] at eK0
    rw [eK0]
    exact ⟨rfl, lqr, wb, rfl, fun e => by cases e⟩
  obtain ⟨p1, p2, p3, p4, -⟩ := pad_f hR h hi2 tl.2.1 tl.1 ep
  have eX : ckl G (Option.map (pad ad i) (some x)) (wrk ft ad P c l) (ad 13 l) (ad 15 l) (some (pp (P.2.2.1 28 l))) (some (pp (P.2.2.1 32 l))) = if m_fits (G.2.2.1 (ad 13 l) 2) (G.2.1 (ad 13 l) 3) (G.2.1 (ad 13 l) 4) (G.2.1 (pad ad i x) 2) = true then
      (if G.2.1 (pad ad i x) 1 = 1 then ckt G (wrk ft ad P c l) (ad 15 l) (m_bits (G.2.2.1 (ad 13 l) 2) (G.2.1 (ad 13 l) 3) (G.2.1 (ad 13 l) 4) (G.2.1 (pad ad i x) 2)) (some (pp (P.2.2.1 32 l)))
       else if G.2.1 (pad ad i x) 5 &&& m_set (m_bits (G.2.2.1 (ad 13 l) 2) (G.2.1 (ad 13 l) 3) (G.2.1 (ad 13 l) 4) (G.2.1 (pad ad i x) 2)) (G.2.1 (ad 13 l) 3) = 0 then (cks (gN G (pad ad i x) 5 (G.2.1 (pad ad i x) 5 ||| m_set (m_bits (G.2.2.1 (ad 13 l) 2) (G.2.1 (ad 13 l) 3) (G.2.1 (ad 13 l) 4) (G.2.1 (pad ad i x) 2)) (G.2.1 (ad 13 l) 3))) (wrk ft ad P c l) (ad 15 l) (m_bits (G.2.2.1 (ad 13 l) 2) (G.2.1 (ad 13 l) 3) (G.2.1 (ad 13 l) 4) (G.2.1 (pad ad i x) 2)) (some (pp (P.2.2.1 32 l))), gN G (pad ad i x) 5 (G.2.1 (pad ad i x) 5 ||| m_set (m_bits (G.2.2.1 (ad 13 l) 2) (G.2.1 (ad 13 l) 3) (G.2.1 (ad 13 l) 4) (G.2.1 (pad ad i x) 2)) (G.2.1 (ad 13 l) 3))) else (some (3, some (pp (P.2.2.1 28 l))), G))
    else (some (5, G.2.2.1 (ad 13 l) 2), G) := rfl
  have me := fun q9 => (mask_f (G := G) (w := pad ad i x) (s := ad 13 l) q9 (by rw [p3]; exact p4.2) (fun e9 => by rw [s1] at e9; rw [s2, s3]; exact n29 (by rcases e29 : P.2.2.2.1 29 l with _ | t; rfl; rw [e29] at e9; cases e9))).2
  rw [s1, s2, s3, p3, (fits_map pp).1, (fits_map pp).2] at me
  rw [eX, s1, s2, s3, p3, (fits_map pp).1, (fits_map pp).2]
  by_cases hf : m_fits (P.2.2.2.1 29 l) (P.2.2.1 30 l) (P.2.2.1 31 l) (m_wd (P.2.2.1 21) i x) = true
  · have eb : q_lb P i x l = some (m_bits (P.2.2.2.1 29 l) (P.2.2.1 30 l) (P.2.2.1 31 l) (m_wd (P.2.2.1 21) i x)) := if_pos hf
    have b16 := bits_le hf p4.2
    have b0 : m_bits (P.2.2.2.1 29 l) (P.2.2.1 30 l) (P.2.2.1 31 l) (m_wd (P.2.2.1 21) i x) ≠ 0 := bits_pos p4.1
    have els : q_ls P i x l = m_set (m_bits (P.2.2.2.1 29 l) (P.2.2.1 30 l) (P.2.2.1 31 l) (m_wd (P.2.2.1 21) i x)) (P.2.2.1 30 l) := by
      unfold q_ls q_low
      split
      · rename_i e; rw [(n29 e).1]
      · rfl
    have mlt := m_set_lt (me hf)
    simp only [ep, eb, els] at eK0
    rw [if_pos hf, eK0]
    generalize m_bits (P.2.2.2.1 29 l) (P.2.2.1 30 l) (P.2.2.1 31 l) (m_wd (P.2.2.1 21) i x) = b at *
    by_cases ho : m_isOut (P.2.2.2.2 19) i x = true
    · have eo : G.2.1 (pad ad i x) 1 = 1 := by rw [p2, if_pos ho]
      rw [if_pos eo]
      have t := tgt_cmp hR h hk hi r3 fo hld h44 hi2 wb lk ep ho eb b16 b0
      simp only [if_pos ho]
      exact t
    · have eo : ¬ G.2.1 (pad ad i x) 1 = 1 := by rw [p2, if_neg ho]; decide
      have vp := pin_vpn h hi2 tl.2.1 tl.1 ep (Bool.eq_false_iff.mpr ho)
      have l3 := lk.2.2.1 x vp
      rw [if_neg eo, l3]
      simp only [if_neg ho]
      by_cases ha : S.2.2.1 48 x &&& m_set b (P.2.2.1 30 l) = 0
      · simp only [if_pos ha]
        obtain ⟨m1, m2⟩ := lk_in (v := S.2.2.1 48 x ||| m_set b (P.2.2.1 30 l)) hR h hi.1 hi2 lk vp
        have hwx : G.2.1 (pad ad i x) 5 < 65536 := (pin_h hR h wb hi2 tl.2.1 tl.1 (pad ad i x) (by rw [ep]; rfl)).2.2.2
        rw [l3] at hwx
        obtain ⟨c1, c2⟩ := src_cmp (b := b) (S := ars S 48 x (S.2.2.1 48 x ||| m_set b (P.2.2.1 30 l))) (hR.sq m2.1) h (kp_tr hk (kp_ars (P := S) (k := 48) (i := x) (v := S.2.2.1 48 x ||| m_set b (P.2.2.1 30 l)) (Or.inl rfl))) hi (fun y hy => by
          rw [show (gN G (pad ad i x) 5 (S.2.2.1 48 x ||| m_set b (P.2.2.1 30 l))).2.1 (ad 7 y) 2 = G.2.1 (ad 7 y) 2 from up2_k _ _ _ _ (by decide)]
          exact r3 y hy)
        refine ⟨c1, m2, WB_N wb (or_lt16 hwx mlt), by rw [c2], fun _ => ?_⟩
        rw [c2]
        refine LK.up m1 (fun q' i' x' y' o => ?_)
        have o := (ol_44 (S := S) rfl).mp o
        have eq := inl_q h hi o.1
        subst eq
        have e1 : i' = i := Option.some.inj (o.2.1.symm.trans h44)
        subst e1
        have e2 : x' = x := Option.some.inj (o.2.2.2.1.symm.trans ep)
        subst e2
        exact absurd o.2.2.2.2.1 ho
      · rw [if_neg ha, if_neg ha]
        exact ⟨rfl, lqr, wb, rfl, fun e => by cases e⟩
  · have eb : q_lb P i x l = none := if_neg hf
    simp only [ep, eb] at eK0
    rw [if_neg hf, eK0]
    refine ⟨?_, lqr, wb, rfl, fun e => by cases e⟩
    rcases e29 : P.2.2.2.1 29 l with _ | t
    · rw [e29] at hf; exact absurd rfl hf
    · rfl
end CKL
