/-! A chip has eight pins at most -/
def TP8 (P : PS) : Prop := ∀ k, k < P.1 15 → (if k + 1 < P.1 15 then P.2.2.1 17 (k + 1) else P.1 18) ≤ P.2.2.1 17 k + 8
theorem chip_T8 {ft tv : Nat → Int32} {nv : Nat → Nat} {T : Nat} {P : PS} (hw : wl tv nv T P) (hc : ct P) (h : SI ft tv nv P) (ht : TP P) (t8 : TP8 P) (h0 : (sp_chip ft tv nv P).1 13 = 0) : TP8 (sp_chip ft tv nv P) := by
  obtain ⟨w3, s3, z3⟩ := wl_ch3 hw
  unfold sp_chip at h0 ⊢
  by_cases h13 : 0 < (ch3 tv P).1 13
  · rw [if_pos h13] at h0; omega
  · rw [if_neg h13] at h0 ⊢
    obtain ⟨f1, f2, f3, f4, f5⟩ := f_ch3 (show (ch3 tv P).1 13 = 0 by omega)
    have c3 : ct (ch3 tv P) := by
      unfold ct at hc ⊢
      rw [z3 15 (by decide) (by decide) (by decide), z3 18 (by decide) (by decide) (by decide), z3 24 (by decide) (by decide) (by decide), z3 37 (by decide) (by decide) (by decide), z3 27 (by decide) (by decide) (by decide)]
      omega
    have w7 := wc_ch7 (nv := nv) w3 c3 f3 (by omega) f4
    have sR : SI ft tv nv (ch3 tv P) := by rw [f2]; exact SI_g h
    have tR : TP8 (ch3 tv P) := by rw [f2]; exact t8
    have r13 : (ch3 tv P).1 13 = 0 := by omega
    have e15 : (ch3 tv P).1 15 = P.1 15 := z3 15 (by decide) (by decide) (by decide)
    clear t8 ht h hc hw
    generalize ch3 tv P = R at *
    have g12 : (sp_go (ch4 R)).1 12 = R.1 12 + 1 := if_pos r13
    have x : chs R (sp_go (ch4 R)) := by
      refine ⟨rfl, rfl, rfl, rfl, rfl, by omega, f4, va_up_self _ _ _, va_up_self _ _ _, va_up_self _ _ _, va_up_self _ _ _, fun k j hh => ?_, rfl, fun z => ?_⟩
      · show (if k = 36 then (fun i => if i = R.1 15 then R.1 37 else R.2.2.1 36 i) else (if k = 23 then (fun i => if i = R.1 15 then R.1 24 else R.2.2.1 23 i) else (if k = 17 then (fun i => if i = R.1 15 then R.1 18 else R.2.2.1 17 i) else (if k = 16 then (fun i => if i = R.1 15 then R.1 12 else R.2.2.1 16 i) else R.2.2.1 k)))) j = _
        by_cases q : j = R.1 15
        · rcases hh with hh | hh
          · rw [if_neg hh.2.2.2, if_neg hh.2.2.1, if_neg hh.2.1, if_neg hh.1]
          · exact absurd q hh
        · by_cases q1 : k = 36
          · subst q1; rw [if_pos rfl]; exact if_neg q
          rw [if_neg q1]
          by_cases q2 : k = 23
          · subst q2; rw [if_pos rfl]; exact if_neg q
          rw [if_neg q2]
          by_cases q3 : k = 17
          · subst q3; rw [if_pos rfl]; exact if_neg q
          rw [if_neg q3]
          by_cases q4 : k = 16
          · subst q4; rw [if_pos rfl]; exact if_neg q
          rw [if_neg q4]
      · obtain ⟨c1, c2, c3', c4, c5⟩ := c3; omega
    have s4 : SI ft tv nv (sp_go (ch4 R)) := ⟨SIc_chip sR.1 x, SIq_chip sR.1 sR.2.1 x, SIl_chip sR.2.2.1 x, SIi_chip sR.2.2.2.1 x, fun z => sR.2.2.2.2 z⟩
    have s5 : SI ft tv nv (ch5 tv R) := by unfold ch5; exact SI_word (SI_sign s4)
    -- no fault anywhere
    have k8 := f_sign h0
    have k7 : (ch7 tv nv R).1 13 = 0 := by
      by_cases q : (ch7 tv nv R).1 13 = 0
      · exact q
      · have := k8.1; rw [ch_loop_e q] at this; exact absurd this q
    have k7' := k7
    unfold ch7 at k7'
    have k6 := f_word (f_sign k7').1
    have kp := f_chpl k6.1
    have kp1 := kp.1
    unfold ch6 at kp1
    have k5 := f_word kp1
    have kq := f_chpl k5.1
    -- the pins
    have z5 : ∀ k, k ≠ 12 → k ≠ 13 → k ≠ 14 → (ch5 tv R).1 k = (ch4 R).1 k := fun k a b c => by unfold ch5; rw [zk_word a b c, zk_sign a b c, zk_go a b c]
    have a5 : (ch5 tv R).2.2 = (ch4 R).2.2 := by unfold ch5; rw [ar_word, ar_sign]; rfl
    have b15 : (ch5 tv R).1 15 = R.1 15 + 1 := z5 15 (by decide) (by decide) (by decide)
    have b18 : (ch5 tv R).1 18 = R.1 18 := z5 18 (by decide) (by decide) (by decide)
    have b24 : (ch5 tv R).1 24 = R.1 24 := z5 24 (by decide) (by decide) (by decide)
    have b17 : (ch5 tv R).2.2.1 17 (R.1 15) = R.1 18 := by rw [a5]; exact va_up_self _ _ _
    have b23 : (ch5 tv R).2.2.1 23 (R.1 15) = R.1 24 := by rw [a5]; exact va_up_self _ _ _
    have b17' : ∀ j, j < R.1 15 → (ch5 tv R).2.2.1 17 j = R.2.2.1 17 j := fun j hj => by rw [a5]; exact x.fr 17 j (Or.inr (by omega))
    obtain ⟨p1, p2, p3, p4, p5, p6, p7, p8, p9⟩ := pl_SI (ft := ft) (ob := false) 1002 (ch5 tv R) s5 kq.1 (by omega) (by rw [b15, Nat.add_sub_cancel, b23, b24]) (by
      intro _ p hp hp'; rw [b15, Nat.add_sub_cancel, b17] at hp; omega) (by rw [← kq.2]; exact k5.1)
    rw [← kq.2] at p1 p2 p3 p4 p5 p6 p7 p8 p9
    have s6 : SI ft tv nv (ch6 tv nv R) := by unfold ch6; exact SI_word p1
    have z6 : ∀ k, k ≠ 12 → k ≠ 13 → k ≠ 14 → (ch6 tv nv R).1 k = (ch_pl tv nv false (ch5 tv R)).1 k := fun k a b c => by unfold ch6; rw [zk_word a b c]
    have a6 : (ch6 tv nv R).2.2 = (ch_pl tv nv false (ch5 tv R)).2.2 := by unfold ch6; rw [ar_word]
    have d15 : (ch6 tv nv R).1 15 = R.1 15 + 1 := by rw [z6 15 (by decide) (by decide) (by decide), p2, b15]
    have d24 : (ch6 tv nv R).1 24 = R.1 24 := by rw [z6 24 (by decide) (by decide) (by decide), p3, b24]
    have d17 : (ch6 tv nv R).2.2.1 17 = (ch5 tv R).2.2.1 17 := by rw [a6, p5]
    have d23 : (ch6 tv nv R).2.2.1 23 = (ch5 tv R).2.2.1 23 := by rw [a6, p4]
    have d18 : R.1 18 < (ch6 tv nv R).1 18 := by rw [z6 18 (by decide) (by decide) (by decide)]; rcases p6 with q | q; exact absurd q (by decide); omega
    obtain ⟨u1, u2, u3, u4, u5, u6, u7, u8, u9⟩ := pl_SI (ft := ft) (ob := true) 1002 (ch6 tv nv R) s6 kp.1 (by omega) (by rw [d15, Nat.add_sub_cancel, d23, b23, d24]) (by intro z; cases z) (by rw [← kp.2]; exact k6.1)
    rw [← kp.2] at u1 u2 u3 u4 u5 u6 u7 u8 u9
    have s7 : SI ft tv nv (ch7 tv nv R) := by unfold ch7; exact SI_sign (SI_word u1)
    have z7 : ∀ k, k ≠ 12 → k ≠ 13 → k ≠ 14 → (ch7 tv nv R).1 k = (ch_pl tv nv true (ch6 tv nv R)).1 k := fun k a b c => by unfold ch7; rw [zk_sign a b c, zk_word a b c]
    have a7 : (ch7 tv nv R).2.2 = (ch_pl tv nv true (ch6 tv nv R)).2.2 := by unfold ch7; rw [ar_sign, ar_word]
    have v15 : (ch7 tv nv R).1 15 = R.1 15 + 1 := by rw [z7 15 (by decide) (by decide) (by decide), u2, d15]
    have v18 : R.1 18 + 2 ≤ (ch7 tv nv R).1 18 := by rw [z7 18 (by decide) (by decide) (by decide)]; rcases u6 with q | q; exact absurd q (by decide); omega
    have v17 : (ch7 tv nv R).2.2.1 17 = (ch5 tv R).2.2.1 17 := by rw [a7, u5, d17]
    obtain ⟨w1, w2, w3', w4, w5⟩ := ch_SI (ft := ft) 1002 (ch7 tv nv R) w7.1 (fun _ => w7.2) s7 k8.1
    have cb7 := w7.2.2.2.2.1
    rw [v15, Nat.add_sub_cancel, v17, b17] at cb7
    have y : ∀ k, k ≠ 12 → k ≠ 13 → k ≠ 14 → (sp_sign tv (nI 125) (ch_loop ft tv nv 1002 (ch7 tv nv R))).1 k = (ch_loop ft tv nv 1002 (ch7 tv nv R)).1 k := fun k a b c => zk_sign a b c
    intro k hk
    rw [y 15 (by decide) (by decide) (by decide), w2, v15] at hk ⊢
    rw [y 18 (by decide) (by decide) (by decide), w3', ar_sign, w4 k (by omega), v17]
    by_cases q : k = R.1 15
    · subst q; rw [b17, if_neg (by omega)]; exact cb7
    · rw [b17' k (by omega), if_pos (by omega), w4 (k + 1) (by omega), v17]
      have := tR k (by omega)
      by_cases q' : k + 1 < R.1 15
      · rw [if_pos q'] at this; rw [b17' (k + 1) q']; exact this
      · rw [if_neg q'] at this; rw [show k + 1 = R.1 15 by omega, b17]; exact this
theorem tt_T8 {ft tv : Nat → Int32} {nv : Nat → Nat} {T : Nat} : ∀ (k : Nat) (P : PS), wl tv nv T P → (P.1 13 = 0 → ct P) → SI ft tv nv P → TP P → TP8 P → (tt_loop ft tv nv k P).1 13 = 0 → TP8 (tt_loop ft tv nv k P)
  | 0, P, _, _, _, _, h8, _ => h8
  | k + 1, P, hw, hc, h, ht, h8, h0 => by
    by_cases hz : P.1 13 = 0
    · rw [tt_loop_s, if_pos hz] at h0 ⊢
      obtain ⟨r1, r2⟩ := chip_keep (ft := ft) hw (hc hz)
      have hX : (sp_chip ft tv nv P).1 13 = 0 := by
        split at h0
        · exact h0
        · by_cases z : (sp_chip ft tv nv P).1 13 = 0
          · exact z
          · rw [tt_loop_e z] at h0; exact absurd h0 z
      obtain ⟨s1, s2, s3⟩ := chip_SI hw (hc hz) h ht hX
      have s4 := chip_T8 hw (hc hz) h ht h8 hX
      by_cases q : (sp_chip ft tv nv P).2.2.1 7 ((sp_chip ft tv nv P).1 12) = 0
      · rw [if_pos q]; exact s4
      · rw [if_neg q] at h0 ⊢
        exact tt_T8 k _ r1 (fun z => (r2 z).1) s1 s2 s4 h0
    · rw [tt_loop_e hz] at h0; exact absurd h0 hz
/-- eight pins at most, once all rows are told -/
def P8 (P : PS) : Prop := ∀ c, c < P.1 15 → P.2.2.1 17 (c + 1) ≤ P.2.2.1 17 c + 8
theorem texts_P8 {ft tv : Nat → Int32} {nv : Nat → Nat} {T : Nat} {P : PS} (hw : wl tv nv T P) (h0 : (sp_texts ft tv nv P).1 13 = 0) : P8 (sp_texts ft tv nv P) := by
  obtain ⟨w0, c0⟩ := wl_tt0 hw
  have i0 := SI_tt0 ft tv nv P
  have hX : (tt_loop ft tv nv 1002 (tt0 P)).1 13 = 0 := h0
  have t8 := tt_T8 (ft := ft) 1002 (tt0 P) w0 (fun _ => c0) i0.1 i0.2 (fun k hk => absurd hk (Nat.not_lt_zero k)) hX
  unfold sp_texts
  generalize tt_loop ft tv nv 1002 (tt0 P) = X at *
  intro c hc
  have hc : c < X.1 15 := hc
  have fr : ∀ j, (tt_end X).2.2.1 17 j = if j = X.1 15 then X.1 18 else X.2.2.1 17 j := fun j => rfl
  rw [fr, fr, if_neg (show c ≠ X.1 15 by omega)]
  have := t8 c hc
  by_cases z : c + 1 < X.1 15
  · rw [if_pos z] at this; rw [if_neg (by omega)]; exact this
  · rw [if_neg z] at this; rw [if_pos (by omega)]; exact this
section IB
variable {ft tv gw gp : Nat → Int32} {nv : Nat → Nat} {T : Nat} {fk : Nat → Int32} {pp nn : Nat → Nat} {fh fl : Nat → Int64} {P S : PS} {c : Nat}
theorem inw_128 (h : KC ft tv gw gp nv T fk pp nn fh fl P) (h8 : P8 P) (hk : kp P S) (hc : c < P.1 15) : inw S (c + 2) ≤ 128 := by
  have b := h.p17 hc
  have e8 := h8 c hc
  unfold inw
  rw [if_pos (by omega), hk.2.1 21 (by decide) (by decide), hk.2.1 17 (by decide) (by decide), hk.2.2.2 19 (by decide)]
  show m_psum (P.2.2.1 21) (icn (P.2.2.2.2 19) (P.2.2.1 17 c) (P.2.2.1 17 (c + 1) - P.2.2.1 17 c)) (P.2.2.1 17 c) 0 ≤ 128
  have il := icn_le (P.2.2.2.2 19) (P.2.2.1 17 c) (P.2.2.1 17 (c + 1) - P.2.2.1 17 c)
  have := psum_l6 (f := P.2.2.1 21) (icn (P.2.2.2.2 19) (P.2.2.1 17 c) (P.2.2.1 17 (c + 1) - P.2.2.1 17 c)) (P.2.2.1 17 c) 0 (fun j a d => (h.w21 j (by omega)).2)
  omega
end IB
