/-! Checked chips: their links stay within their bits -/
section WFO
variable {t0 qc qna qdf : Nat} {ft tv gw gp : Nat → Int32} {nv : Nat → Nat} {T : Nat} {fk : Nat → Int32} {pp nn : Nat → Nat} {fh fl : Nat → Int64} {G : PG} {ad : Nat → Nat → Nat} {tg : Nat → Nat × Nat} {P S : PS} {c q l i x y : Nat} {L : List Nat}
theorem psum_m2 {f : Nat → Nat} {a k k' : Nat} (h : k ≤ k') : m_psum f k a 0 ≤ m_psum f k' a 0 := by
  have := psum_mk (f := f) (i := a) (n := 0) k (k' - k)
  rw [show k + (k' - k) = k' by omega] at this; exact this
theorem isum_mk {f : Nat → Option Nat} {i n : Nat} : ∀ k d, m_isum f k i n ≤ m_isum f (k + d) i n
  | k, 0 => Nat.le_refl _
  | k, d + 1 => Nat.le_trans (isum_mk k d) (by rw [show k + (d + 1) = (k + d) + 1 by omega, isum_sn]; exact Nat.le_add_right _ _)
/-- IN pins stand first -/
theorem pin_io (h : KC ft tv gw gp nv T fk pp nn fh fl P) (hc : c < P.1 15) (h1 : P.2.2.1 17 c ≤ x) (h2 : x < P.2.2.1 17 (c + 1)) : P.2.2.2.2 19 x = false ↔ x - P.2.2.1 17 c < icn (P.2.2.2.2 19) (P.2.2.1 17 c) (P.2.2.1 17 (c + 1) - P.2.2.1 17 c) := by
  have b := h.p17 hc
  refine icn_io _ (fun p p' a d e f => ?_) x h1 (by omega)
  refine h.2.2.1.1.1.po c p p' hc a d (by omega) (fun z => ?_) f
  omega
theorem fit_b {o : Option Nat} {a b n : Nat} (hf : m_fits o a b n = true) (h0 : o = none → a = 0) : q_low o a + m_bits o a b n ≤ n := by
  unfold m_fits at hf
  unfold q_low m_bits
  rcases o with _ | z
  · rw [if_pos rfl, if_pos rfl]; omega
  · rw [if_neg (fun z => by cases z), Bool.and_eq_true] at hf
    have a1 := of_decide_eq_true hf.1
    have a2 := of_decide_eq_true hf.2
    rw [if_neg (fun z => by cases z), if_neg (fun z => by cases z)]
    omega
/-- the pin of a part: its bits -/
theorem pin_bits (h : KC ft tv gw gp nv T fk pp nn fh fl P) (hk : kp P S) (hi : i < P.1 15 + 2) (hR : RF t0 qc qna qdf ft tv fh fl pp nn G ad tg P) {t : Nat} (ht : t ≤ T) (k : P.2.2.1 7 t = 1) (e : q_pin ft gp P i t = some x) :
    (m_isOut (P.2.2.2.2 19) i x = true → inw S i ≤ q_off S i x ∧ q_off S i x + m_wd (P.2.2.1 21) i x ≤ pbn S i) ∧ (m_isOut (P.2.2.2.2 19) i x = false → q_off S i x + m_wd (P.2.2.1 21) i x ≤ inw S i) := by
  have x3 := (pad_f hR h hi ht k e).2.2.2.2
  unfold q_off inw m_isOut m_wd
  by_cases c1 : 1 < i
  · rw [if_pos c1, if_pos c1, if_pos c1, if_pos c1, hk.2.1 21 (by decide) (by decide), hk.2.1 17 (by decide) (by decide), hk.2.2.2 19 (by decide)]
    unfold q_pin at e
    rw [if_pos c1] at e
    have b := m_find_in _ _ _ e
    have b17 := h.p17 (c := i - 2) (by omega)
    have io := pin_io h (c := i - 2) (x := x) (by omega) (by omega) (by omega)
    have sn := psum_sn (P.2.2.1 21) (x - P.2.2.1 17 (i - 2)) (P.2.2.1 17 (i - 2)) 0
    rw [show P.2.2.1 17 (i - 2) + (x - P.2.2.1 17 (i - 2)) = x by omega] at sn
    constructor
    · intro o
      have no : ¬ x - P.2.2.1 17 (i - 2) < icn (P.2.2.2.2 19) (P.2.2.1 17 (i - 2)) (P.2.2.1 17 (i - 2 + 1) - P.2.2.1 17 (i - 2)) := fun z => by rw [io.mpr z] at o; cases o
      refine ⟨psum_m2 (by omega), ?_⟩
      unfold pbn
      rw [if_pos c1, ow_e hk]
      refine Nat.le_trans ?_ (isum_mono _ _ _)
      rw [← sn]
      exact psum_m2 (by omega)
    · intro o
      rw [← sn]
      exact psum_m2 (io.mp o)
  · rw [if_neg c1, if_neg c1, if_neg c1, if_neg c1]
    rw [if_neg c1] at x3
    unfold pbn
    rw [if_neg c1]
    by_cases i0 : i = 0
    · rw [if_pos i0, if_pos i0, if_pos i0]
      exact ⟨fun o => by have := of_decide_eq_true o; omega, fun o => by have := of_decide_eq_false o; omega⟩
    · rw [if_neg i0, if_neg i0, if_neg i0]
      have x2 : x < 2 := by
        unfold q_pin at e
        rw [if_neg c1, if_neg i0] at e
        split at e
        · cases e; decide
        · split at e
          · cases e; decide
          · cases e
      exact ⟨fun o => by have := of_decide_eq_true o; omega, fun o => by have := of_decide_eq_false o; omega⟩
theorem wfs_of (ck : CKB t0 qc qna qdf ft tv gp fh fl pp nn ad tg P L G S (P.1 15)) (h : KC ft tv gw gp nv T fk pp nn fh fl P) : WFS ft gp S := by
  obtain ⟨hR, wb, hL, hk, rs, fr, g4, ofc, gv, hs, lo⟩ := ck
  intro c q hc hq
  rw [hk.1 15 (by decide) (by decide)] at hc ⊢
  unfold ptc at hq
  rw [hk.2.1 23 (by decide) (by decide)] at hq
  rw [hk.2.1 26 (by decide) (by decide)]
  obtain ⟨i, a1, a2, a3⟩ := lo c hc q hq.1 hq.2
  have ei : pty S q = i := by unfold pty; rw [a1]; rfl
  rw [ei]
  refine ⟨a2, fun l l1 l2 => ?_⟩
  have hin : inl P c q l := ⟨hc, hq, l1, l2⟩
  obtain ⟨hq24, hl27⟩ := h.inl hin
  have tl := h.ln l hl27
  obtain ⟨x, b1, b2, b3, b4⟩ := a3 l l1 l2
  have lk := h.2.2.1.1.2.2.1.lk l hl27
  have ex : lxx ft gp S i l = x := by unfold lxx; rw [q_pin_kp hk, hk.2.1 28 (by decide) (by decide), b1]; rfl
  have eio : lio ft gp S i l = m_isOut (P.2.2.2.2 19) i x := by unfold lio; rw [ex, hk.2.2.2 19 (by decide)]
  have elf : llf ft gp S i l = q_off S i x + q_low (P.2.2.2.1 29 l) (P.2.2.1 30 l) := by unfold llf q_lf; rw [ex, hk.2.2.1 29 (by decide) (by decide), hk.2.1 30 (by decide) (by decide), Nat.zero_add]
  have emb : lmb ft gp S i l = m_bits (P.2.2.2.1 29 l) (P.2.2.1 30 l) (P.2.2.1 31 l) (m_wd (P.2.2.1 21) i x) := by unfold lmb q_mb; rw [ex, hk.2.2.1 29 (by decide) (by decide), hk.2.1 30 (by decide) (by decide), hk.2.1 31 (by decide) (by decide), hk.2.1 21 (by decide) (by decide)]
  have fb := fit_b b2 (fun e => (lk.2.2.2.2.2.1 e).1)
  rw [← emb] at fb
  obtain ⟨p1, p2⟩ := pin_bits (gp := gp) h hk a2 hR tl.2.1 tl.1 b1
  have b17 := h.p17 hc
  have b36 := h.p36 hc
  have ecb : q_cb S l = !decide (P.2.2.1 7 (P.2.2.1 32 l) = 1) := by unfold q_cb; rw [hk.2.1 7 (by decide) (by decide), hk.2.1 32 (by decide) (by decide)]
  have iwc : inw S (c + 2) = m_psum (P.2.2.1 21) (icn (P.2.2.2.2 19) (P.2.2.1 17 c) (P.2.2.1 17 (c + 1) - P.2.2.1 17 c)) (P.2.2.1 17 c) 0 := by unfold inw; rw [if_pos (by omega), hk.2.1 21 (by decide) (by decide), hk.2.1 17 (by decide) (by decide), hk.2.2.2 19 (by decide)]; rfl
  -- the right side
  have rgt : P.2.2.1 7 (P.2.2.1 32 l) = 1 → lrt ft S c l + lmb ft gp S i l ≤ ow S c ∧ (m_isOut (P.2.2.2.2 19) i x = true → inw S (c + 2) ≤ lrt ft S c l) := fun k7 => by
    have er : lrt ft S c l = match q_own ft P c (P.2.2.1 32 l) with
      | some y => m_psum (P.2.2.1 21) (y - P.2.2.1 17 c) (P.2.2.1 17 c) 0 + q_low (P.2.2.2.1 33 l) (P.2.2.1 34 l)
      | none => m_isum (S.2.2.2.1 39) ((q_inn ft P c (P.2.2.1 32 l)).getD 0 - P.2.2.1 36 c) (P.2.2.1 36 c) (psw P c) := by
      unfold lrt q_rt q_ip m_iplace psw
      rw [hk.2.1 7 (by decide) (by decide), hk.2.1 32 (by decide) (by decide), if_pos k7, q_own_kp hk, q_inn_kp hk, hk.2.1 21 (by decide) (by decide), hk.2.1 17 (by decide) (by decide), hk.2.1 36 (by decide) (by decide), hk.2.2.1 33 (by decide) (by decide), hk.2.1 34 (by decide) (by decide), Nat.zero_add]
      rcases q_own ft P c (P.2.2.1 32 l) with _ | z <;> rfl
    rcases b4 k7 with ⟨z, e1, e2, e3, e4⟩ | ⟨y, e1, e2, e3, e4⟩
    · rw [e1] at er
      have er : lrt ft S c l = m_psum (P.2.2.1 21) (z - P.2.2.1 17 c) (P.2.2.1 17 c) 0 + q_low (P.2.2.2.1 33 l) (P.2.2.1 34 l) := er
      have b := m_find_in _ _ _ e1
      have h34 : P.2.2.2.1 33 l = none → P.2.2.1 34 l = 0 := fun e => by
        rcases lk.2.2.2.2.2.2 with w | w
        · exact (w.2 e).1
        · rw [k7] at w; exact absurd w.1 (by decide)
      have fb2 := fit_b e3 h34
      rw [e4] at fb2
      have eq : q_mb P i x l = lmb ft gp S i l := by rw [emb]; rfl
      rw [eq] at fb2
      have io := pin_io h hc (x := z) (by omega) (by omega)
      have sn := psum_sn (P.2.2.1 21) (z - P.2.2.1 17 c) (P.2.2.1 17 c) 0
      rw [show P.2.2.1 17 c + (z - P.2.2.1 17 c) = z by omega] at sn
      constructor
      · rw [ow_e hk]
        refine Nat.le_trans ?_ (isum_mono _ _ _)
        have : m_psum (P.2.2.1 21) (z - P.2.2.1 17 c + 1) (P.2.2.1 17 c) 0 ≤ psw P c := psum_m2 (by omega)
        omega
      · intro o
        have no : ¬ z - P.2.2.1 17 c < icn (P.2.2.2.2 19) (P.2.2.1 17 c) (P.2.2.1 17 (c + 1) - P.2.2.1 17 c) := fun w => by rw [io.mpr w] at e2; rw [o] at e2; cases e2
        rw [iwc, er]
        exact Nat.le_trans (psum_m2 (by omega)) (Nat.le_add_right _ _)
    · rw [e1, e2] at er
      have er : lrt ft S c l = m_isum (S.2.2.2.1 39) (y - P.2.2.1 36 c) (P.2.2.1 36 c) (psw P c) := er
      have b := m_find_in _ _ _ e2
      have sn := isum_sn (S.2.2.2.1 39) (y - P.2.2.1 36 c) (P.2.2.1 36 c) (psw P c)
      rw [show P.2.2.1 36 c + (y - P.2.2.1 36 c) = y by omega, e4] at sn
      have eq : q_mb P i x l = lmb ft gp S i l := by rw [emb]; rfl
      rw [eq] at sn
      have sn : m_isum (S.2.2.2.1 39) (y - P.2.2.1 36 c + 1) (P.2.2.1 36 c) (psw P c) = m_isum (S.2.2.2.1 39) (y - P.2.2.1 36 c) (P.2.2.1 36 c) (psw P c) + lmb ft gp S i l := sn
      constructor
      · rw [ow_e hk, er, ← sn]
        have := isum_mk (f := S.2.2.2.1 39) (i := P.2.2.1 36 c) (n := psw P c) (y - P.2.2.1 36 c + 1) (P.2.2.1 36 (c + 1) - P.2.2.1 36 c - (y - P.2.2.1 36 c + 1))
        rw [show y - P.2.2.1 36 c + 1 + (P.2.2.1 36 (c + 1) - P.2.2.1 36 c - (y - P.2.2.1 36 c + 1)) = P.2.2.1 36 (c + 1) - P.2.2.1 36 c by omega] at this
        exact this
      · intro _
        rw [iwc, er]
        refine Nat.le_trans ?_ (isum_mono _ _ _)
        exact psum_m2 (icn_le _ _ _)
  refine ⟨fun o => ?_, fun o => ?_, fun o => ?_⟩
  · rw [eio] at o
    have k7 := b3 o
    have g := p1 o
    refine ⟨by rw [ecb, decide_eq_true k7]; rfl, (rgt k7).2 o, by rw [elf]; omega, by rw [elf]; omega⟩
  · rw [eio] at o
    have g := p2 o
    rw [elf]; omega
  · rw [ecb] at o
    by_cases k7 : P.2.2.1 7 (P.2.2.1 32 l) = 1
    · exact (rgt k7).1
    · rw [decide_eq_false k7] at o; cases o
/-- a chip has two bits at least -/
theorem ow_2 (h : KC ft tv gw gp nv T fk pp nn fh fl P) (hk : kp P S) (hc : c < P.1 15) : 2 ≤ ow S c := by
  have tp := h.2.2.1.2.1 c hc
  have b17 := h.p17 hc
  have e18 : P.2.2.1 17 (P.1 15) = P.1 18 := h.2.2.1.2.2.2.2.1
  have t2 : P.2.2.1 17 c + 2 ≤ P.2.2.1 17 (c + 1) := by
    by_cases z : c + 1 < P.1 15
    · rw [if_pos z] at tp; exact tp
    · rw [if_neg z] at tp; rw [show c + 1 = P.1 15 by omega, e18]; exact tp
  rw [ow_e hk]
  refine Nat.le_trans ?_ (isum_mono _ _ _)
  refine Nat.le_trans ?_ (psum_m2 (f := P.2.2.1 21) (a := P.2.2.1 17 c) (k := 2) (by omega))
  show 2 ≤ 0 + P.2.2.1 21 (P.2.2.1 17 c) + P.2.2.1 21 (P.2.2.1 17 c + 1)
  have w1 := (h.w21 (P.2.2.1 17 c) (by omega)).1
  have w2 := (h.w21 (P.2.2.1 17 c + 1) (by omega)).1
  omega
end WFO
