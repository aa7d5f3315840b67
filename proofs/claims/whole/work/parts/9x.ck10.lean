/-- what holds while the links of chip cn are checked -/
def KSP (t0 qc qna qdf : Nat) (ft tv gp : Nat → Int32) (fh fl : Nat → Int64) (pp nn : Nat → Nat) (ad : Nat → Nat → Nat) (tg : Nat → Nat × Nat) (P : PS) (L : List Nat) (cn : Nat) (G0 G : PG) (S : PS) (i ld : Nat) : Prop :=
  RF t0 qc qna qdf ft tv fh fl pp nn G ad tg P ∧ WB G ad P ∧ gL L G ∧ lq P ad cn G0 G ∧ kp P S ∧ RSV ft gp P ad G S (P.2.2.1 23 (cn + 1)) (P.2.2.1 26 (P.2.2.1 23 (cn + 1))) (P.2.2.1 36 (cn + 1)) ∧ FO ft gp P S cn (P.2.2.1 26 (P.2.2.1 23 (cn + 1))) ∧ LK ft gp P ad cn G S i ld
theorem kl_links_u {ft gp : Nat → Int32} {c i n l : Nat} {S : PS} : kl_links ft gp c i (n - l) l S = if l < n then (if (kl_link ft gp c i l S).1 = none then kl_links ft gp c i (n - (l + 1)) (l + 1) (kl_link ft gp c i l S).2 else kl_link ft gp c i l S) else (none, S) := by
  by_cases h : l < n
  · rw [if_pos h, show n - l = (n - (l + 1)) + 1 by omega]; rfl
  · rw [if_neg h, show n - l = 0 by omega]; rfl
theorem FO.o {ft gp : Nat → Int32} {P S S' : PS} {c ld : Nat} (f : FO ft gp P S c ld) (e : S'.2.2.2.1 = S.2.2.2.1) : FO ft gp P S' c ld := by
  unfold FO ol at f ⊢; rw [e]; exact f
theorem KSP.link {t0 qc qna qdf : Nat} {ft tv gw gp : Nat → Int32} {nv : Nat → Nat} {T : Nat} {fk : Nat → Int32} {pp nn : Nat → Nat} {fh fl : Nat → Int64} {L : List Nat} {G0 G : PG} {ad : Nat → Nat → Nat} {tg : Nat → Nat × Nat} {P S : PS} {c q l i : Nat} (r : KSP t0 qc qna qdf ft tv gp fh fl pp nn ad tg P L c G0 G S i l) (h : KC ft tv gw gp nv T fk pp nn fh fl P) (hi : inl P c q l) (h44 : S.2.2.2.1 44 q = some i) (hi2 : i < P.1 15 + 2) {X : Option (Nat × Option Nat) × PG} (hX : X = ckl G ((q_pin ft gp P i (P.2.2.1 28 l)).map (pad ad i)) (wrk ft ad P c l) (ad 13 l) (ad 15 l) (some (pp (P.2.2.1 28 l))) (some (pp (P.2.2.1 32 l)))) :
    X.1 = fpt pp (kl_link ft gp c i l S).1 ∧ RF t0 qc qna qdf ft tv fh fl pp nn X.2 ad tg P ∧ gL L X.2 ∧ (kl_link ft gp c i l S).2.2.2.2.1 = S.2.2.2.1 ∧ ((kl_link ft gp c i l S).1 = none → KSP t0 qc qna qdf ft tv gp fh fl pp nn ad tg P L c G0 X.2 (kl_link ft gp c i l S).2 i (l + 1)) := by
  obtain ⟨hR, wb, hL, hl, hk, rs, fo, lk⟩ := r
  have hq : q < P.2.2.1 23 (c + 1) := hi.2.1.2
  have hld : l < P.2.2.1 26 (P.2.2.1 23 (c + 1)) := by
    have b := h.p23 hi.1
    have e26 := h.2.2.1.2.2.2.2.2.2.2
    have := hi.2.2.2
    by_cases z : P.2.2.1 23 (c + 1) < P.1 24
    · have := (h.2.2.1.1.2.2.1.fm (q + 1) (P.2.2.1 23 (c + 1)) (by omega) z).1; omega
    · have := (h.inl hi).2
      rw [show P.2.2.1 23 (c + 1) = P.1 24 by omega, e26]; exact this
  obtain ⟨a1, a2, a3, a4, a5⟩ := ckl_cmp hR h hk hi rs.2.2 fo hld h44 hi2 wb lk hX
  have kpl : kp P (kl_link ft gp c i l S).2 := by
    refine kp_tr hk ?_
    have e := kp_kpart (ft := ft) (gp := gp) (c := c) (i := i) 1 l S
    have e2 : (kl_links ft gp c i 1 l S).2 = (kl_link ft gp c i l S).2 := by
      show (if (kl_link ft gp c i l S).1 = none then ((none, (kl_link ft gp c i l S).2) : Option (Nat × Nat) × PS) else kl_link ft gp c i l S).2 = _
      split <;> rfl
    rw [e2] at e; exact e
  exact ⟨a1, hR.sq a2.1, hL.sq a2.1, a4, fun e => ⟨hR.sq a2.1, a3, hL.sq a2.1, hl.tr a2, kpl, rs.lq a2 a4, fo.o a4, a5 e⟩⟩
