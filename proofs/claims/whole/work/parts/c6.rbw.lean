/-! The reference's board, whole -/
section RBW
variable {ft tv gp : Nat → Int32} {S P : PS} {rk : Nat → Nat} {c0 : Nat} {gn bn : Nat → Nat}
/-- what the layout reads of a state -/
def sbl (P S : PS) : Prop := P.2.2.1 = S.2.2.1 ∧ P.2.2.2.1 = S.2.2.2.1 ∧ P.2.2.2.2 19 = S.2.2.2.2 19
theorem sbl_ow (h : sbl P S) : ow P = ow S := by
  funext k; unfold ow; rw [h.1, h.2.1]
theorem sbl_q (h : sbl P S) (c bs i pb l : Nat) (fr : Nat → Nat) : q_conn ft tv P c bs i pb l ((q_pin ft gp P i (P.2.2.1 28 l)).getD 0) fr = q_conn ft tv S c bs i pb l ((q_pin ft gp S i (S.2.2.1 28 l)).getD 0) fr := by
  have e1 : q_pin ft gp P i (P.2.2.1 28 l) = q_pin ft gp S i (S.2.2.1 28 l) := by unfold q_pin q_own q_word; rw [h.1]
  rw [e1]
  have e2 : ∀ x, q_lf P i x pb l = q_lf S i x pb l := fun x => by unfold q_lf q_off; rw [h.1, h.2.1]
  have e3 : q_rt ft P c bs l = q_rt ft S c bs l := by unfold q_rt q_own q_inn q_ip; rw [h.1, h.2.1]
  have e4 : q_cb P l = q_cb S l := by unfold q_cb; rw [h.1]
  have e5 : q_tz tv P l = q_tz tv S l := by unfold q_tz; rw [h.1]
  unfold q_conn
  rw [e2, e3, e4, e5, h.1, h.2.1, h.2.2]
theorem sbl_l (h : sbl P S) (c bs i pb : Nat) : ∀ k l fr, bl_l ft tv gp P c bs i pb k l fr = bl_l ft tv gp S c bs i pb k l fr
  | 0, _, _ => rfl
  | k + 1, l, fr => by
    show bl_l ft tv gp P c bs i pb k (l + 1) (q_conn ft tv P c bs i pb l ((q_pin ft gp P i (P.2.2.1 28 l)).getD 0) fr) = bl_l ft tv gp S c bs i pb k (l + 1) (q_conn ft tv S c bs i pb l ((q_pin ft gp S i (S.2.2.1 28 l)).getD 0) fr)
    rw [sbl_l h c bs i pb k, sbl_q h]
theorem sbl_1 (h : sbl P S) (c bs p : Nat) (Y : LY) : bl_1 ft tv gp P c bs p Y = bl_1 ft tv gp S c bs p Y := by
  unfold bl_1
  rw [sbl_ow h, sbl_l h, h.1, h.2.1]
theorem sbl_p (h : sbl P S) (c bs : Nat) : ∀ k p Y, bl_p ft tv gp P c bs k p Y = bl_p ft tv gp S c bs k p Y
  | 0, _, _ => rfl
  | k + 1, p, Y => by
    show bl_p ft tv gp P c bs k (p + 1) (bl_1 ft tv gp P c bs p Y) = bl_p ft tv gp S c bs k (p + 1) (bl_1 ft tv gp S c bs p Y)
    rw [sbl_p h c bs k, sbl_1 h]
theorem sbl_w (h : sbl P S) (Y : LY) : bl_w ft tv gp P Y = bl_w ft tv gp S Y := by
  unfold bl_w
  rw [sbl_p h, h.1]
theorem sbl_all (h : sbl P S) : ∀ k Y, bl_all ft tv gp P k Y = bl_all ft tv gp S k Y
  | 0, _ => rfl
  | k + 1, Y => by
    show (if Y.1.2.1 = 0 then Y else bl_all ft tv gp P k (bl_w ft tv gp P Y)) = if Y.1.2.1 = 0 then Y else bl_all ft tv gp S k (bl_w ft tv gp S Y)
    rw [sbl_w h, sbl_all h k]
/-- the layout stays within its rows -/
theorem bvi_all (hf : bfix S gn bn) (hk : kb_p ft gp S) (m23 : ∀ c, c < S.1 15 → S.2.2.1 23 c ≤ S.2.2.1 23 (c + 1)) : ∀ k Y, bvi S gn bn Y 0 0 → bvi S gn bn (bl_all ft tv gp S k Y) 0 0
  | 0, _, h => h
  | k + 1, Y, h => by
    show bvi S gn bn (if Y.1.2.1 = 0 then Y else bl_all ft tv gp S k (bl_w ft tv gp S Y)) 0 0
    by_cases e : Y.1.2.1 = 0
    · rw [if_pos e]; exact h
    · rw [if_neg e]
      obtain ⟨p1, p2, p3⟩ := bvi_pop e h
      have m := m23 _ p2
      exact bvi_all hf hk m23 k _ (bvi_p (ft := ft) (tv := tv) (gp := gp) (bs := Y.2.2.2.2.1 (Y.1.2.1 - 1)) hf (fun p => hk (Y.2.2.2.1 (Y.1.2.1 - 1)) p p2) (S.2.2.1 23 (Y.2.2.2.1 (Y.1.2.1 - 1) + 1) - S.2.2.1 23 (Y.2.2.2.1 (Y.1.2.1 - 1))) (S.2.2.1 23 (Y.2.2.2.1 (Y.1.2.1 - 1))) (bl_pop Y) (Nat.le_refl _) (by omega) p3 p1).1
theorem bl_end {Y : LY} (h : Y.1.2.1 = 0) : ∀ n, bl_all ft tv gp S n Y = Y
  | 0 => rfl
  | n + 1 => if_pos h
theorem rbs_ltf (hb : BRD ft gp S rk c0) (hf : bfix S gn bn) (hk : kb_p ft gp S) (hg : gn c0 ≤ 300) (hn : bn c0 ≤ 8000) {A : LY} (hfr : ∀ i, A.2.1 i < 8002) (hgo : ∀ i, A.2.2.1 i ≤ 300) {Y : LY} (hY : Y = bl_all ft tv gp S 8001 (np (ow S) (2 + c0) ((0, 0, 0), A.2))) :
    ∃ b g, LTF eR cR 1 ft tv gp S c0 b g Y.2.1 Y.1.1 Y.1.2.2 (KGR S Y) ∧ GOI Y ∧ (∀ j, j < inw S (c0 + 2) → Y.2.1 j = 1) ∧ bvi S gn bn Y 0 0 := by
  obtain ⟨wf, hr, m23, ho, hi, hw, h0⟩ := hb
  have v0 := bvi_0 (S := A) hf h0 hg hn hfr hgo
  have e0 : np (ow S) (2 + c0) ((0, 0, 0), A.2) = np_c (ow S) (2 + c0) ((0, 0, 0), A.2) := by unfold np; rw [if_pos (by omega)]
  have c2 : 2 + c0 - 2 = c0 := by omega
  have y1 : (np (ow S) (2 + c0) ((0, 0, 0), A.2)).1 = (ow S c0, 1, 0) := by
    rw [e0]; show (0 + ow S (2 + c0 - 2), 0 + 1, 0) = _
    rw [c2, Nat.zero_add]
  have y2 : ∀ x, x < ow S c0 → (np (ow S) (2 + c0) ((0, 0, 0), A.2)).2.1 x = 1 := fun x hx => by
    rw [e0]; show rs 1 (ow S (2 + c0 - 2)) 0 A.2.1 x = 1
    rw [rs_x, c2, if_pos (by omega)]
  have y3 : ∀ x, x < ow S c0 → (np (ow S) (2 + c0) ((0, 0, 0), A.2)).2.2.1 x = 0 := fun x hx => by
    rw [e0]; show rs 0 (ow S (2 + c0 - 2)) 0 A.2.2.1 x = 0
    rw [rs_x, c2, if_pos (by omega)]
  have y4 : (np (ow S) (2 + c0) ((0, 0, 0), A.2)).2.2.2.1 0 = c0 := by
    rw [e0]; show va_up A.2.2.2.1 0 (2 + c0 - 2) 0 = c0
    rw [va_up_self, c2]
  have y5 : (np (ow S) (2 + c0) ((0, 0, 0), A.2)).2.2.2.2.1 0 = 0 := by
    rw [e0]; show va_up A.2.2.2.2.1 0 0 0 = 0; exact va_up_self _ _ _
  generalize np (ow S) (2 + c0) ((0, 0, 0), A.2) = Y0 at v0 y1 y2 y3 y4 y5 hY
  have iwo : inw S (c0 + 2) ≤ ow S c0 := by have := inw_le S (c0 + 2); unfold pbn at this; rw [if_pos (by omega)] at this; exact this
  have b1 : Y0.1.1 = ow S c0 := by rw [y1]
  obtain ⟨k, Y', r1, ⟨r2, r3⟩, b, g, r4, r5, r6⟩ := rpop_all (tv := tv) wf ho m23 hr.1 (rk c0 + 1) Y0 c0 0 0 (by rw [y1]) y4 y5 h0 (Nat.lt_succ_self _) (by rw [b1, Nat.zero_add]; exact Nat.le_refl _) (fun j _ hj => by rw [Nat.zero_add]; exact y2 j hj)
  have vk := bvi_all (tv := tv) hf hk m23 k Y0 v0
  have ek : bl_all ft tv gp S k Y0 = Y' := by have := r1 0; rw [Nat.zero_add] at this; exact this
  rw [ek] at vk
  have l1 := vk.1
  have o2 := ho c0 h0
  have eY : Y = Y' := by
    rw [hY]
    have := r1 (8001 - k)
    rw [show 8001 - k + k = 8001 by omega] at this
    rw [this, bl_end r2]
  subst eY
  have g0 : GOI Y0 := fun x hx nz => absurd (y3 x (by omega)) nz
  refine ⟨fun s => if s = [] then 0 else b s, g, ⟨if_pos rfl, by have := r6.1.1; omega, ?_, r5.cg (fun _ _ _ => rfl) (fun _ _ _ _ => rfl) (fun q _ => if_neg (List.cons_ne_nil _ _))⟩, by rw [hY]; exact GOI_all 8001 Y0 g0, fun j hj => ?_, vk⟩
  · rw [b1, show Y0.1.2.2 = 0 by rw [y1]] at r4
    exact LAF.b0 r4
  · rw [r6.2.1 j (by omega) (fun z => by have := z.1; omega)]
    exact y2 j (by omega)
end RBW
section KBO
variable {t0 qc qna qdf : Nat} {ft tv gw gp : Nat → Int32} {nv : Nat → Nat} {T : Nat} {fk : Nat → Int32} {pp nn : Nat → Nat} {fh fl : Nat → Int64} {G : PG} {ad : Nat → Nat → Nat} {tg : Nat → Nat × Nat} {P S : PS} {L : List Nat}
/-- checked links tie bits that are there -/
theorem kb_of (ck : CKB t0 qc qna qdf ft tv gp fh fl pp nn ad tg P L G S (P.1 15)) (h : KC ft tv gw gp nv T fk pp nn fh fl P) : kb_p ft gp S := by
  have wf := wfs_of ck h
  obtain ⟨hR, wb, hL, hk, rs, fr, g4, ofc, gv, hs, lo⟩ := ck
  intro c q hc h1 h2
  have hq : ptc S c q := ⟨h1, h2⟩
  have w := wf c q hc hq
  have hc' := hc
  rw [hk.1 15 (by decide) (by decide)] at hc' ⊢
  rw [hk.2.1 23 (by decide) (by decide)] at h1 h2
  obtain ⟨i, a1, a2, a3⟩ := lo c hc' q h1 h2
  have ei : pty S q = i := by unfold pty; rw [a1]; rfl
  rw [ei] at w
  refine ⟨i, a1, by omega, fun l l1 l2 => ?_⟩
  obtain ⟨w1, w2, w3⟩ := w.2 l l1 l2
  rw [hk.2.1 26 (by decide) (by decide)] at l1 l2
  obtain ⟨x, b1, b2, b3, b4⟩ := a3 l l1 l2
  have hin : inl P c q l := ⟨hc', ⟨h1, h2⟩, l1, l2⟩
  obtain ⟨hq24, hl27⟩ := h.inl hin
  have tl := h.ln l hl27
  have lk := h.2.2.1.1.2.2.1.lk l hl27
  have e7 : S.2.2.1 7 (S.2.2.1 32 l) = P.2.2.1 7 (P.2.2.1 32 l) := by rw [hk.2.1 7 (by decide) (by decide), hk.2.1 32 (by decide) (by decide)]
  have ep : q_pin ft gp S i (S.2.2.1 28 l) = some x := by rw [q_pin_kp hk, hk.2.1 28 (by decide) (by decide)]; exact b1
  have ex : lxx ft gp S i l = x := by unfold lxx; rw [ep]; rfl
  have m16 := (pad_f hR h a2 tl.2.1 tl.1 b1).2.2.2.1
  have emb : q_mb S i x l = m_bits (P.2.2.2.1 29 l) (P.2.2.1 30 l) (P.2.2.1 31 l) (m_wd (P.2.2.1 21) i x) := by unfold q_mb; rw [hk.2.2.1 29 (by decide) (by decide), hk.2.1 30 (by decide) (by decide), hk.2.1 31 (by decide) (by decide), hk.2.1 21 (by decide) (by decide)]
  have fb := fit_b b2 (fun e => (lk.2.2.2.2.2.1 e).1)
  rw [← emb] at fb
  have elm : lmb ft gp S i l = q_mb S i x l := by unfold lmb; rw [ex]
  have elf : llf ft gp S i l = q_lf S i x 0 l := by unfold llf; rw [ex]
  rw [elm, elf] at w1 w2
  rw [elm] at w3
  refine ⟨x, ep, ?_, fun k7 => ?_, ?_, fun k7 => ?_, fun o => ?_, by omega⟩
  · rw [hk.2.2.1 29 (by decide) (by decide), hk.2.1 30 (by decide) (by decide), hk.2.1 31 (by decide) (by decide), hk.2.1 21 (by decide) (by decide)]; exact b2
  · rw [e7] at k7
    rw [q_own_kp hk, q_inn_kp hk, hk.2.1 32 (by decide) (by decide)]
    rcases b4 k7 with ⟨z, e1, -⟩ | ⟨y, e1, e2, -⟩
    · exact Or.inl (by rw [e1]; exact Option.some_ne_none _)
    · exact Or.inr (by rw [e2]; exact Option.some_ne_none _)
  · rcases e : lio ft gp S i l with _ | _
    · exact Nat.le_trans (w2 e) (inw_le S i)
    · exact (w1 e).2.2.2
  · exact w3 (by unfold q_cb; rw [decide_eq_true k7]; rfl)
  · rw [e7]; exact b3 (by rw [← hk.2.2.2 19 (by decide)]; exact o)
end KBO
