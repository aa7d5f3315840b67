/-! The links of a chip: what the checks write into the wires -/
/-- x is an IN pin of chip number i -/
def vpn (P : PS) (i x : Nat) : Prop := (if 1 < i then P.2.2.1 17 (i - 2) ≤ x ∧ x < P.2.2.1 17 (i - 2 + 1) else if i = 0 then x < 3 else x < 2) ∧ m_isOut (P.2.2.2.2 19) i x = false
def LK (ft gp : Nat → Int32) (P : PS) (ad : Nat → Nat → Nat) (c : Nat) (G : PG) (S : PS) (i ld : Nat) : Prop :=
  (∀ p, P.2.2.1 17 c ≤ p → p < P.2.2.1 17 (c + 1) → P.2.2.2.2 19 p = true → G.2.1 (ad 5 p) 5 = S.2.2.1 49 p) ∧
  (∀ y, P.2.2.1 36 c ≤ y → y < P.2.2.1 36 (c + 1) → (G.2.1 (ad 7 y) 5 ≠ 0 ↔ S.2.2.2.2 40 y = true)) ∧
  (∀ x, vpn P i x → G.2.1 (pad ad i x) 5 = S.2.2.1 48 x) ∧
  ∀ q l i x y, l < ld → ol ft gp P S c q l i x y → S.2.2.2.2 40 y = true
def lq (P : PS) (ad : Nat → Nat → Nat) (c : Nat) (G G' : PG) : Prop := sq G G' ∧ G'.2.2.2.1 = G.2.2.2.1 ∧ G'.2.2.2.2.2 = G.2.2.2.2.2 ∧ (∀ b k, k ≠ 5 → G'.2.1 b k = G.2.1 b k) ∧ (∀ p, P.2.2.1 17 (c + 1) ≤ p → p < P.1 18 → P.2.2.2.2 19 p = true → G'.2.1 (ad 5 p) 5 = G.2.1 (ad 5 p) 5) ∧ ∀ y, P.2.2.1 36 (c + 1) ≤ y → y < P.1 37 → G'.2.1 (ad 7 y) 5 = G.2.1 (ad 7 y) 5
theorem lq.rf (P : PS) (ad : Nat → Nat → Nat) (c : Nat) (G : PG) : lq P ad c G G := ⟨sq.rf G, rfl, rfl, fun _ _ _ => rfl, fun _ _ _ _ => rfl, fun _ _ _ => rfl⟩
theorem lq.tr {P : PS} {ad : Nat → Nat → Nat} {c : Nat} {G G1 G2 : PG} (h : lq P ad c G G1) (h2 : lq P ad c G1 G2) : lq P ad c G G2 := by
  obtain ⟨a1, a2, a3, a4, a5, a6⟩ := h
  obtain ⟨b1, b2, b3, b4, b5, b6⟩ := h2
  exact ⟨a1.tr b1, b2.trans a2, b3.trans a3, fun b k e => (b4 b k e).trans (a4 b k e), fun p x y z => (b5 p x y z).trans (a5 p x y z), fun y x z => (b6 y x z).trans (a6 y x z)⟩
theorem RSV.lq {ft gp : Nat → Int32} {P S S' : PS} {ad : Nat → Nat → Nat} {c : Nat} {G G' : PG} {qd ld id : Nat} (r : RSV ft gp P ad G S qd ld id) (h : lq P ad c G G') (e44 : S'.2.2.2.1 = S.2.2.2.1) : RSV ft gp P ad G' S' qd ld id := by
  obtain ⟨-, a2, a3, a4, -⟩ := h
  obtain ⟨r1, r2, r3⟩ := r
  rw [← e44] at r1 r2 r3
  exact ⟨fun q hq => by rw [a3]; exact r1 q hq, fun q l i a b d e f => by rw [a3]; exact r2 q l i a b d e f, fun y hy => by rw [a2, a4 _ 2 (by decide)]; exact r3 y hy⟩
section LKS_
variable {t0 qc qna qdf : Nat} {ft tv gw gp : Nat → Int32} {nv : Nat → Nat} {T : Nat} {fk : Nat → Int32} {pp nn : Nat → Nat} {fh fl : Nat → Int64} {G : PG} {ad : Nat → Nat → Nat} {tg : Nat → Nat × Nat} {P S S' : PS} {c q l i x y ld v a : Nat}
theorem n5_s : (gN G a 5 v).2.1 a 5 = v := up2_s _ _ _ _
theorem n5_a {b : Nat} (h : b ≠ a) : (gN G a 5 v).2.1 b 5 = G.2.1 b 5 := up2_a _ _ _ _ h
theorem lq_N (ha : G.1 a = 2) (h5 : ∀ p, P.2.2.1 17 (c + 1) ≤ p → p < P.1 18 → P.2.2.2.2 19 p = true → ad 5 p ≠ a) (h7 : ∀ y, P.2.2.1 36 (c + 1) ≤ y → y < P.1 37 → ad 7 y ≠ a) : lq P ad c G (gN G a 5 v) := ⟨sq_5 ha, rfl, rfl, fun b k e => up2_k _ _ _ _ e, fun p x y z => n5_a (h5 p x y z), fun y x z => n5_a (h7 y x z)⟩
theorem WB_N (h : WB G ad P) (hv : v < 65536) : WB (gN G a 5 v) ad P := by
  have g : ∀ b, G.2.1 b 5 < 65536 → (gN G a 5 v).2.1 b 5 < 65536 := fun b hb => by
    by_cases e : b = a
    · rw [e, n5_s]; exact hv
    · rw [n5_a e]; exact hb
  exact ⟨fun p hp => g _ (h.1 p hp), fun y hy => ⟨g _ (h.2.1 y hy).1, by rw [show (gN G a 5 v).2.1 (ad 7 y) 2 = G.2.1 (ad 7 y) 2 from up2_k _ _ _ _ (by decide)]; exact (h.2.1 y hy).2⟩, fun j hj => g _ (h.2.2 j hj)⟩
theorem ol_44 (e : S'.2.2.2.1 = S.2.2.2.1) : ol ft gp P S' c q l i x y ↔ ol ft gp P S c q l i x y := by unfold ol; rw [e]
theorem vpn_lt (h : KC ft tv gw gp nv T fk pp nn fh fl P) (hi : i < P.1 15 + 2) (hv : vpn P i x) : if 1 < i then x < P.1 18 else if i = 0 then x < 3 else x < 2 := by
  obtain ⟨h1, -⟩ := hv
  split at h1
  · rename_i q; rw [if_pos q]; have := h.p17 (c := i - 2) (by omega); omega
  · rename_i q; rw [if_neg q]; exact h1
/-- an IN pin's wire is no wire of these -/
theorem pad_ne (hR : RF t0 qc qna qdf ft tv fh fl pp nn G ad tg P) (h : KC ft tv gw gp nv T fk pp nn fh fl P) (hi : i < P.1 15 + 2) (hv : vpn P i x) : G.1 (pad ad i x) = 2 ∧ (∀ p, p < P.1 18 → P.2.2.2.2 19 p = true → ad 5 p ≠ pad ad i x) ∧ (∀ y, y < P.1 37 → ad 7 y ≠ pad ad i x) ∧ ∀ x', vpn P i x' → pad ad i x' = pad ad i x → x' = x := by
  have hl := vpn_lt h hi hv
  have hl2 : ∀ x', vpn P i x' → if 1 < i then x' < P.1 18 else if i = 0 then x' < 3 else x' < 2 := fun x' hx' => vpn_lt h hi hx'
  have ho := hv.2
  unfold pad
  unfold m_isOut at ho
  by_cases c1 : 1 < i
  · simp only [if_pos c1] at hl hl2 ho ⊢
    refine ⟨(hR.1 5 x hl).1, fun p hp e q => ?_, fun y hy => hR.1.ne (show y < cno P 7 from hy) (show x < cno P 5 from hl) (by omega), fun x' hx' q => ?_⟩
    · by_cases z : p = x
      · rw [z, ho] at e; cases e
      · exact hR.1.ne (show p < cno P 5 from hp) (show x < cno P 5 from hl) (by omega) q
    · by_cases z : x' = x
      · exact z
      · exact absurd q (hR.1.ne (show x' < cno P 5 from hl2 x' hx') (show x < cno P 5 from hl) (by omega))
  · simp only [if_neg c1] at hl hl2 ⊢
    by_cases i0 : i = 0
    · simp only [if_pos i0] at hl hl2 ⊢
      refine ⟨(hR.1 22 x (show x < 5 by omega)).1, fun p hp _ => hR.1.ne (show p < cno P 5 from hp) (show x < cno P 22 by show x < 5; omega) (by omega), fun y hy => hR.1.ne (show y < cno P 7 from hy) (show x < cno P 22 by show x < 5; omega) (by omega), fun x' hx' q => ?_⟩
      by_cases z : x' = x
      · exact z
      · exact absurd q (hR.1.ne (show x' < cno P 22 by have := hl2 x' hx'; show x' < 5; omega) (show x < cno P 22 by show x < 5; omega) (by omega))
    · simp only [if_neg i0] at hl hl2 ⊢
      refine ⟨(hR.1 22 (3 + x) (show 3 + x < 5 by omega)).1, fun p hp _ => hR.1.ne (show p < cno P 5 from hp) (show 3 + x < cno P 22 by show 3 + x < 5; omega) (by omega), fun y hy => hR.1.ne (show y < cno P 7 from hy) (show 3 + x < cno P 22 by show 3 + x < 5; omega) (by omega), fun x' hx' q => ?_⟩
      by_cases z : x' = x
      · exact z
      · exact absurd q (hR.1.ne (show 3 + x' < cno P 22 by have := hl2 x' hx'; show 3 + x' < 5; omega) (show 3 + x < cno P 22 by show 3 + x < 5; omega) (by omega))
end LKS_
