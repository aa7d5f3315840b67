/-! Checked chips are ready to become a board -/
theorem isum_16 {iw : Nat → Option Nat} : ∀ k a n, (∀ j, a ≤ j → j < a + k → (iw j).getD 0 ≤ 16) → m_isum iw k a n ≤ n + 16 * k
  | 0, _, n, _ => Nat.le_refl n
  | k + 1, a, n, h => by
    have r := isum_16 (iw := iw) k (a + 1) (n + (iw a).getD 0) (fun j x y => h j (by omega) (by omega))
    have := h a (Nat.le_refl _) (by omega)
    show m_isum iw k (a + 1) (n + (iw a).getD 0) ≤ _
    omega
section BRO
variable {t0 qc qna qdf : Nat} {ft tv gw gp : Nat → Int32} {nv : Nat → Nat} {T : Nat} {fk : Nat → Int32} {pp nn : Nat → Nat} {fh fl : Nat → Int64} {G : PG} {ad : Nat → Nat → Nat} {tg : Nat → Nat × Nat} {P S : PS} {L : List Nat} {f : Nat → Nat} {c0 : Nat}
theorem brd_of (ck : CKB t0 qc qna qdf ft tv gp fh fl pp nn ad tg P L G S (P.1 15)) (h : KC ft tv gw gp nv T fk pp nn fh fl P) (h8 : P8 P) (hr : fsc (rms S f) (S.1 15) 0 = none) (hc : c0 < P.1 15) : BRD ft gp S (rkc (S.1 15) (rms S f)) c0 ∧ a44 S := by
  have wf := wfs_of ck h
  obtain ⟨hR, wb, hL, hk, rs, fr, g4, ofc, gv, hs, lo⟩ := ck
  have e15 : S.1 15 = P.1 15 := hk.1 15 (by decide) (by decide)
  have s15 : P.1 15 ≤ 8 := h.2.2.1.2.2.2.1.1
  have s18 : P.1 18 ≤ 8 * P.1 15 := h.2.2.1.2.2.2.1.2.1
  have s37 : P.1 37 ≤ 30 * P.1 15 := h.2.2.1.2.2.2.1.2.2.2.1
  have e36 : P.2.2.1 36 (P.1 15) = P.1 37 := h.2.2.1.2.2.2.2.2.2.1
  refine ⟨⟨wf, ⟨fun c q c1 q1 p1 => rk_ring hr c1 q1 p1 (by have := (wf c q c1 q1).1; omega), fun c c1 => rkc_lt c1 (fsc_n _ _ hr c (Nat.zero_le _) (by omega)), by omega⟩, fun c c1 => ?_, fun c c1 => ow_2 h hk (by omega), inw_128 h h8 hk hc, ?_, by omega⟩, fun c q c1 q1 => ?_⟩
  · rw [hk.2.1 23 (by decide) (by decide)]; exact (h.p23 (by omega)).1
  · rw [ow_e hk]
    have b17 := h.p17 hc
    have b36 := h.p36 hc
    have w39 : ∀ y, y < P.1 37 → (S.2.2.2.1 39 y).getD 0 ≤ 16 := fun y hy => by
      obtain ⟨-, r2⟩ := rs.2.2 y (by rw [e36]; exact hy)
      by_cases z : S.2.2.2.1 39 y = some 0
      · rw [z]; exact Nat.zero_le _
      · rw [← (r2 z).2]; exact (wb.2.1 y hy).2
    have i1 := isum_16 (iw := S.2.2.2.1 39) (P.2.2.1 36 (c0 + 1) - P.2.2.1 36 c0) (P.2.2.1 36 c0) (psw P c0) (fun j x y => w39 j (by omega))
    have i2 : psw P c0 ≤ 128 * 8 := by
      have := psum_l6 (f := P.2.2.1 21) (P.2.2.1 17 (c0 + 1) - P.2.2.1 17 c0) (P.2.2.1 17 c0) 0 (fun j a d => (h.w21 j (by omega)).2)
      unfold psw
      omega
    refine Nat.le_trans i1 ?_
    omega
  · rw [e15] at c1
    unfold ptc at q1
    rw [hk.2.1 23 (by decide) (by decide)] at q1
    obtain ⟨i, a1, -⟩ := lo c c1 q q1.1 q1.2
    rw [a1]; exact Option.some_ne_none _
end BRO
