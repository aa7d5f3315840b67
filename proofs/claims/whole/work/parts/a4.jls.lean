/-! The class's layout: what a link ties -/
theorem psum_l6 {f : Nat → Nat} : ∀ k i n, (∀ j, i ≤ j → j < i + k → f j ≤ 16) → m_psum f k i n ≤ n + 16 * k
  | 0, _, _, _ => Nat.le_refl _
  | k + 1, i, n, h => by
    have a := h i (Nat.le_refl _) (by omega)
    have r := psum_l6 k (i + 1) (n + f i) (fun j x y => h j (by omega) (by omega))
    show m_psum f k (i + 1) (n + f i) ≤ _
    omega
theorem isum_l6 {f : Nat → Option Nat} : ∀ k i n, (∀ j, i ≤ j → j < i + k → (f j).getD 0 ≤ 16) → m_isum f k i n ≤ n + 16 * k
  | 0, _, _, _ => Nat.le_refl _
  | k + 1, i, n, h => by
    have a := h i (Nat.le_refl _) (by omega)
    have r := isum_l6 k (i + 1) (n + (f i).getD 0) (fun j x y => h j (by omega) (by omega))
    show m_isum f k (i + 1) (n + (f i).getD 0) ≤ _
    omega
def q_cz (tv : Nat → Int32) (P : PS) (l : Nat) : Nat := if tv (P.2.2.1 32 l) = nI 4 then 1 else 0
def jl1 (ft tv gp : Nat → Int32) (S : PS) (c bs i pb nb l : Nat) (fr : Nat → Nat ⊕ Nat) : Nat → Nat ⊕ Nat := jn (q_cb S l) (m_isOut (S.2.2.2.2 19) i ((q_pin ft gp S i (S.2.2.1 28 l)).getD 0)) (q_cz tv S l) (q_lf S i ((q_pin ft gp S i (S.2.2.1 28 l)).getD 0) pb l) (q_rt ft S c bs l) nb (q_mb S i ((q_pin ft gp S i (S.2.2.1 28 l)).getD 0) l) 0 fr
def jls (ft tv gp : Nat → Int32) (S : PS) (c bs i pb nb : Nat) : Nat → Nat → (Nat → Nat ⊕ Nat) → (Nat → Nat ⊕ Nat)
  | 0, _, fr => fr
  | k + 1, l, fr => jls ft tv gp S c bs i pb nb k (l + 1) (jl1 ft tv gp S c bs i pb nb l fr)
theorem jls_u (ft tv gp : Nat → Int32) (S : PS) (c bs i pb nb n l : Nat) (fr : Nat → Nat ⊕ Nat) : jls ft tv gp S c bs i pb nb (n - l) l fr = if l < n then jls ft tv gp S c bs i pb nb (n - (l + 1)) (l + 1) (jl1 ft tv gp S c bs i pb nb l fr) else fr := by
  by_cases h : l < n
  · rw [if_pos h, show n - l = (n - (l + 1)) + 1 by omega]; rfl
  · rw [if_neg h, show n - l = 0 by omega]; rfl
section JLS
variable {t0 qc qna qdf : Nat} {ft tv gw gp : Nat → Int32} {nv : Nat → Nat} {T : Nat} {fk : Nat → Int32} {pp nn : Nat → Nat} {fh fl : Nat → Int64} {G : PG} {ad : Nat → Nat → Nat} {tg : Nat → Nat × Nat} {P S : PS} {c q l i x y ld : Nat} {L : List Nat}
theorem w39_le (ck : CKB t0 qc qna qdf ft tv gp fh fl pp nn ad tg P L G S (P.1 15)) (h : KC ft tv gw gp nv T fk pp nn fh fl P) (hy : y < P.1 37) : (S.2.2.2.1 39 y).getD 0 ≤ 16 := by
  obtain ⟨hR, wb, hL, hk, rs, fr, g4, ofc, gv, hs, lo⟩ := ck
  have e36 : P.2.2.1 36 (P.1 15) = P.1 37 := h.2.2.1.2.2.2.2.2.2.1
  rw [← ((rs.2.2 y (by omega)).2 (gv y (by omega))).2]
  exact (wb.2.1 y hy).2
theorem psw_le (h : KC ft tv gw gp nv T fk pp nn fh fl P) (hc : c < P.1 15) {k : Nat} (hk : k ≤ P.2.2.1 17 (c + 1) - P.2.2.1 17 c) : m_psum (P.2.2.1 21) k (P.2.2.1 17 c) 0 ≤ 1024 := by
  have b := h.p17 hc
  have s18 : P.1 18 ≤ 8 * P.1 15 := h.2.2.1.2.2.2.1.2.1
  have s15 : P.1 15 ≤ 8 := h.2.2.1.2.2.2.1.1
  have := psum_l6 (f := P.2.2.1 21) k (P.2.2.1 17 c) 0 (fun j a d => (h.w21 j (by omega)).2)
  omega
theorem isw_le (ck : CKB t0 qc qna qdf ft tv gp fh fl pp nn ad tg P L G S (P.1 15)) (h : KC ft tv gw gp nv T fk pp nn fh fl P) (hc : c < P.1 15) {k : Nat} (hk : k ≤ P.2.2.1 36 (c + 1) - P.2.2.1 36 c) : m_isum (S.2.2.2.1 39) k (P.2.2.1 36 c) (psw P c) ≤ 4864 := by
  have b := h.p36 hc
  have s37 : P.1 37 ≤ 30 * P.1 15 := h.2.2.1.2.2.2.1.2.2.2.1
  have s15 : P.1 15 ≤ 8 := h.2.2.1.2.2.2.1.1
  have e := psw_le h hc (Nat.le_refl _)
  have := isum_l6 (f := S.2.2.2.1 39) k (P.2.2.1 36 c) (psw P c) (fun j a d => w39_le ck h (by omega))
  unfold psw at this ⊢
  omega
theorem ow_e (hk : kp P S) (c : Nat) : ow S c = m_isum (S.2.2.2.1 39) (P.2.2.1 36 (c + 1) - P.2.2.1 36 c) (P.2.2.1 36 c) (psw P c) := by
  unfold ow m_iplace psw
  rw [hk.2.1 17 (by decide) (by decide), hk.2.1 21 (by decide) (by decide), hk.2.1 36 (by decide) (by decide)]
/-- a chip's bits -/
theorem cad_b (ck : CKB t0 qc qna qdf ft tv gp fh fl pp nn ad tg P L G S (P.1 15)) (h : KC ft tv gw gp nv T fk pp nn fh fl P) (hi : i < P.1 15 + 2) : G.2.1 (cad ad i) 8 = pbn S i ∧ pbn S i ≤ 4864 ∧ (¬ 1 < i → G.2.1 (cad ad i) 7 = if i = 0 then 2 else 1) := by
  have ck0 := ck
  obtain ⟨hR, wb, hL, hk, rs, fr, g4, ofc, gv, hs, lo⟩ := ck
  unfold cad pbn
  by_cases c1 : 1 < i
  · rw [if_pos c1, if_pos c1, ow_e hk]
    exact ⟨(ofc (i - 2) (by omega)).2.2.1, isw_le ck0 h (by omega) (Nat.le_refl _), fun z => absurd c1 z⟩
  · rw [if_neg c1, if_neg c1]
    rcases (show i = 0 ∨ i = 1 by omega) with e | e
    · subst e; exact ⟨g4.1.2, by decide, fun _ => g4.1.1⟩
    · subst e; exact ⟨g4.2.1.2, by decide, fun _ => g4.2.1.1⟩
theorem pad_o (ck : CKB t0 qc qna qdf ft tv gp fh fl pp nn ad tg P L G S (P.1 15)) (h : KC ft tv gw gp nv T fk pp nn fh fl P) (hi : i < P.1 15 + 2) {t : Nat} (ht : t ≤ T) (k : P.2.2.1 7 t = 1) (e : q_pin ft gp P i t = some x) : G.2.1 (pad ad i x) 4 = q_off S i x ∧ q_off S i x ≤ 1024 := by
  obtain ⟨hR, wb, hL, hk, rs, fr, g4, ofc, gv, hs, lo⟩ := ck
  have x3 := (pad_f hR h hi ht k e).2.2.2.2
  unfold pad q_off
  by_cases c1 : 1 < i
  · rw [if_pos c1, if_pos c1, hk.2.1 21 (by decide) (by decide), hk.2.1 17 (by decide) (by decide)]
    unfold q_pin at e
    rw [if_pos c1] at e
    have b := m_find_in _ _ _ e
    have b17 := h.p17 (c := i - 2) (by omega)
    exact ⟨(ofc (i - 2) (by omega)).1 x (by omega) (by omega), psw_le h (by omega) (by omega)⟩
  · rw [if_neg c1, if_neg c1]
    unfold q_pin at e
    rw [if_neg c1] at e
    by_cases i0 : i = 0
    · rw [if_pos i0] at e ⊢
      rw [if_neg c1] at x3
      exact ⟨by rw [g4.2.2 x (by omega), if_pos x3], by omega⟩
    · rw [if_neg i0] at e ⊢
      have hx : x < 2 := by
        split at e
        · cases e; decide
        · split at e
          · cases e; decide
          · cases e
      exact ⟨by rw [g4.2.2 (3 + x) (by omega), if_neg (by omega)]; omega, by omega⟩
theorem wrk_cb (hR : RF t0 qc qna qdf ft tv fh fl pp nn G ad tg P) (hk : kp P S) (hi : inl P c q l) : decide (wrk ft ad P c l = none) = q_cb S l := by
  unfold q_cb
  rw [hk.2.1 7 (by decide) (by decide), hk.2.1 32 (by decide) (by decide)]
  by_cases k7 : P.2.2.1 7 (P.2.2.1 32 l) = 1
  · rw [decide_eq_true k7, decide_eq_false ((hR.2.2.2.2.2.2.2.2.1 c q l hi).2.2.2.2.2 k7)]; rfl
  · rw [decide_eq_false k7, decide_eq_true (show wrk ft ad P c l = none by unfold wrk; rw [if_neg k7])]; rfl
/-- all that join asks of link l, and what it does -/
theorem jl_h (ck : CKB t0 qc qna qdf ft tv gp fh fl pp nn ad tg P L G S (P.1 15)) (h : KC ft tv gw gp nv T fk pp nn fh fl P) (hi : inl P c q l) (h44 : S.2.2.2.1 44 q = some i) :
    ∃ pn, G.1 (ad 12 l) = 4 ∧ G.1 pn = 2 ∧ G.2.1 pn 1 < 3 ∧ G.1 (ad 13 l) = 3 ∧ G.1 (ad 15 l) = 3 ∧ G.2.2.2.2.2 (ad 12 l) 0 = some (ad 13 l) ∧ G.2.2.2.2.2 (ad 12 l) 1 = some (ad 15 l) ∧ G.2.2.2.2.2 (ad 12 l) 2 = some pn ∧ G.2.2.2.2.2 (ad 12 l) 3 = wrk ft ad P c l ∧ (∀ wn, wrk ft ad P c l = some wn → G.1 wn = 2 ∧ G.2.1 wn 4 < 100000) ∧ (wrk ft ad P c l = none → G.2.2.1 (ad 15 l) 1 = some (q_cz tv S l)) ∧ (∀ y, G.2.2.1 (ad 13 l) 2 = some y → y < 2 ^ 31) ∧ G.2.1 (ad 13 l) 3 < 100 ∧ G.2.1 (ad 13 l) 4 < 100 ∧ G.2.1 (ad 13 l) 3 ≤ G.2.1 (ad 13 l) 4 ∧ m_bits (G.2.2.1 (ad 13 l) 2) (G.2.1 (ad 13 l) 3) (G.2.1 (ad 13 l) 4) (G.2.1 pn 2) < 1000 ∧ G.2.1 (ad 15 l) 3 < 100 ∧ G.2.1 pn 4 < 100000 ∧ G.2.1 pn 2 < 100 ∧
      ∀ bs pb nb fr, jn (decide (wrk ft ad P c l = none)) (decide (G.2.1 pn 1 ≠ 0)) (q_cz tv S l) (pb + G.2.1 pn 4 + G.2.1 (ad 13 l) 3) (match wrk ft ad P c l with | none => 0 | some wn => bs + G.2.1 wn 4 + G.2.1 (ad 15 l) 3) nb (m_bits (G.2.2.1 (ad 13 l) 2) (G.2.1 (ad 13 l) 3) (G.2.1 (ad 13 l) 4) (G.2.1 pn 2)) 0 fr = jl1 ft tv gp S c bs i pb nb l fr := by
  have ck0 := ck
  obtain ⟨hR, wb, hL, hk, rs, fr, g4, ofc, gv, hs, lo⟩ := ck
  have e23 : P.2.2.1 23 (P.1 15) = P.1 24 := h.2.2.1.2.2.2.2.2.1
  have e26 : P.2.2.1 26 (P.1 24) = P.1 27 := h.2.2.1.2.2.2.2.2.2.2
  have e36 : P.2.2.1 36 (P.1 15) = P.1 37 := h.2.2.1.2.2.2.2.2.2.1
  obtain ⟨hq, hl⟩ := h.inl hi
  have tl := h.ln l hl
  obtain ⟨i', a1, a2, a3⟩ := lo c hi.1 q hi.2.1.1 hi.2.1.2
  have ei : i' = i := Option.some.inj (a1.symm.trans h44)
  subst ei
  obtain ⟨x, b1, b2, b3, b4⟩ := a3 l hi.2.2.1 hi.2.2.2
  obtain ⟨y1, y2, y3, y4, y5, y6, y7, y8, y9⟩ := lnk_f hR h wb hi
  obtain ⟨g1, g2, g3, g4', g5, g6, g7, g8, g9, g10, g11⟩ := lnk_g hR h hi
  obtain ⟨r1, r2, r3, r4, r5, r6⟩ := hR.2.2.2.2.2.2.2.2.1 c q l hi
  obtain ⟨p1, p2, p3, p4, p5⟩ := pad_f hR h a2 tl.2.1 tl.1 b1
  obtain ⟨o1, o2⟩ := pad_o ck0 h a2 tl.2.1 tl.1 b1
  have hpn : G.2.2.2.2.2 (ad 12 l) 2 = some (pad ad i' x) := by rw [rs.2.1 q l i' (by omega) (by rw [e23, e26]; exact hl) hi.2.2.1 hi.2.2.2 h44, b1]; rfl
  have hlo : G.2.1 (ad 13 l) 3 = q_low (P.2.2.2.1 29 l) (P.2.2.1 30 l) := by
    unfold q_low
    rcases e : P.2.2.2.1 29 l with _ | z
    · rw [if_pos rfl]; exact (g10 (by rw [r2.2.2.2.1, e]; rfl)).1
    · rw [if_neg (fun z => by cases z)]; exact r2.2.2.2.2.1
  have hmb : m_bits (G.2.2.1 (ad 13 l) 2) (G.2.1 (ad 13 l) 3) (G.2.1 (ad 13 l) 4) (G.2.1 (pad ad i' x) 2) = q_mb S i' x l := by
    unfold q_mb m_bits
    rw [r2.2.2.2.1, r2.2.2.2.2.1, r2.2.2.2.2.2, p3, hk.2.2.1 29 (by decide) (by decide), hk.2.1 30 (by decide) (by decide), hk.2.1 31 (by decide) (by decide), hk.2.1 21 (by decide) (by decide)]
    rcases P.2.2.2.1 29 l with _ | z <;> rfl
  have hlh : G.2.1 (ad 13 l) 3 ≤ G.2.1 (ad 13 l) 4 := by
    rcases e : P.2.2.2.1 29 l with _ | z
    · have := g10 (by rw [r2.2.2.2.1, e]; rfl); omega
    · unfold m_fits at b2
      rw [e, if_neg (fun z => by cases z), Bool.and_eq_true] at b2
      rw [r2.2.2.2.2.1, r2.2.2.2.2.2]
      exact of_decide_eq_true b2.1
  have hpx : (q_pin ft gp S i' (S.2.2.1 28 l)).getD 0 = x := by rw [q_pin_kp hk, hk.2.1 28 (by decide) (by decide), b1]; rfl
  have hio : decide (G.2.1 (pad ad i' x) 1 ≠ 0) = m_isOut (S.2.2.2.2 19) i' x := by
    rw [p2, hk.2.2.2 19 (by decide)]
    cases m_isOut (P.2.2.2.2 19) i' x <;> rfl
  have hrl : G.2.1 (ad 15 l) 3 = rl0 P 34 l := r4.2.2.2.2.1
  have hwo : ∀ wn, wrk ft ad P c l = some wn → P.2.2.1 7 (P.2.2.1 32 l) = 1 ∧ G.1 wn = 2 ∧ G.2.1 wn 4 < 100000 ∧ ∀ bs, bs + G.2.1 wn 4 + G.2.1 (ad 15 l) 3 = q_rt ft S c bs l := fun wn hw => by
    have k7 : P.2.2.1 7 (P.2.2.1 32 l) = 1 := by
      unfold wrk at hw
      split at hw
      · assumption
      · cases hw
    have hl34 : G.2.1 (ad 15 l) 3 = q_low (P.2.2.2.1 33 l) (P.2.2.1 34 l) := by
      unfold q_low
      rcases e : P.2.2.2.1 33 l with _ | z
      · rw [if_pos rfl]; exact (g9 (by rw [r4.2.2.2.1, e]; rfl)).1
      · rw [if_neg (fun z => by cases z), hrl]; unfold rl0; rw [if_pos k7]
    have y9' := y9 wn (g2.trans hw)
    refine ⟨k7, y9'.1, ?_⟩
    have rq : ∀ bs, q_rt ft S c bs l = bs + (match q_own ft P c (P.2.2.1 32 l) with
      | some y => m_psum (P.2.2.1 21) (y - P.2.2.1 17 c) (P.2.2.1 17 c) 0 + q_low (P.2.2.2.1 33 l) (P.2.2.1 34 l)
      | none => m_isum (S.2.2.2.1 39) ((q_inn ft P c (P.2.2.1 32 l)).getD 0 - P.2.2.1 36 c) (P.2.2.1 36 c) (psw P c)) := fun bs => by
      unfold q_rt q_ip m_iplace psw
      rw [hk.2.1 7 (by decide) (by decide), hk.2.1 32 (by decide) (by decide), if_pos k7, q_own_kp hk, q_inn_kp hk, hk.2.1 21 (by decide) (by decide), hk.2.1 17 (by decide) (by decide), hk.2.1 36 (by decide) (by decide), hk.2.2.1 33 (by decide) (by decide), hk.2.1 34 (by decide) (by decide)]
      rcases q_own ft P c (P.2.2.1 32 l) with _ | z <;> rfl
    unfold wrk at hw
    rw [if_pos k7] at hw
    rcases b4 k7 with ⟨z, e1, -, -, -⟩ | ⟨y, e1, e2, e3, -⟩
    · rw [e1] at hw
      have hw : wn = ad 5 z := (Option.some.inj hw).symm
      have br := m_find_in _ _ _ e1
      have b17 := h.p17 hi.1
      have o := (ofc c hi.1).1 z (by omega) (by omega)
      have ob := psw_le h hi.1 (k := z - P.2.2.1 17 c) (by omega)
      rw [hw, o, hl34]
      exact ⟨by omega, fun bs => by rw [rq bs, e1]; show _ = bs + (_ + _); omega⟩
    · rw [e1, e2] at hw
      have hw : wn = ad 7 y := (Option.some.inj hw).symm
      have br := m_find_in _ _ _ e2
      have b36 := h.p36 hi.1
      have o := (ofc c hi.1).2.1 y (by omega) (by omega)
      have ob := isw_le ck0 h hi.1 (k := y - P.2.2.1 36 c) (by omega)
      have z34 : G.2.1 (ad 15 l) 3 = 0 := by rw [hl34, e3]; rfl
      rw [hw, o, z34]
      exact ⟨by omega, fun bs => by rw [rq bs, e1, e2]; show _ = bs + m_isum (S.2.2.2.1 39) (y - P.2.2.1 36 c) (P.2.2.1 36 c) (psw P c); omega⟩
  refine ⟨pad ad i' x, y1, p1, by rw [p2]; split <;> decide, y3, g3, y2, g1, hpn, g2, fun wn hw => ⟨(hwo wn hw).2.1, (hwo wn hw).2.2.1⟩, fun hw => ?_, y6, y7, y8, hlh, ?_, g7, by omega, by rw [p3]; omega, fun bs pb nb fr => ?_⟩
  · rw [r4.2.2.1]
    unfold cst q_cz
    rw [hk.2.1 32 (by decide) (by decide), if_neg (fun k7 => r6 k7 hw)]
  · unfold m_bits
    split <;> omega
  · unfold jl1
    rw [hpx, wrk_cb hR hk hi, hio, hmb]
    have e1 : pb + G.2.1 (pad ad i' x) 4 + G.2.1 (ad 13 l) 3 = q_lf S i' x pb l := by
      unfold q_lf
      rw [o1, hlo, hk.2.2.1 29 (by decide) (by decide), hk.2.1 30 (by decide) (by decide)]
    have e2 : (match wrk ft ad P c l with | none => 0 | some wn => bs + G.2.1 wn 4 + G.2.1 (ad 15 l) 3) = q_rt ft S c bs l := by
      rcases ew : wrk ft ad P c l with _ | wn
      · show 0 = _
        unfold q_rt
        rw [hk.2.1 7 (by decide) (by decide), hk.2.1 32 (by decide) (by decide), if_neg (fun k7 => r6 k7 ew)]
      · exact (hwo wn ew).2.2.2 bs
    rw [e1, e2]
end JLS
