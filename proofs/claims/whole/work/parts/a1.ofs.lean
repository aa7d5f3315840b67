/-! The offsets of a chip, and what holds between the chips -/
theorem psum_sn (f : Nat → Nat) : ∀ k i n, m_psum f (k + 1) i n = m_psum f k i n + f (i + k)
  | 0, i, n => rfl
  | k + 1, i, n => by
    show m_psum f (k + 1) (i + 1) (n + f i) = m_psum f k (i + 1) (n + f i) + f (i + (k + 1))
    rw [psum_sn f k (i + 1), show i + 1 + k = i + (k + 1) by omega]
theorem isum_sn (f : Nat → Option Nat) : ∀ k i n, m_isum f (k + 1) i n = m_isum f k i n + (f (i + k)).getD 0
  | 0, i, n => rfl
  | k + 1, i, n => by
    show m_isum f (k + 1) (i + 1) (n + (f i).getD 0) = m_isum f k (i + 1) (n + (f i).getD 0) + (f (i + (k + 1))).getD 0
    rw [isum_sn f k (i + 1), show i + 1 + k = i + (k + 1) by omega]
theorem isum_cg {f g : Nat → Option Nat} : ∀ k i n, (∀ j, i ≤ j → j < i + k → f j = g j) → m_isum f k i n = m_isum g k i n
  | 0, _, _, _ => rfl
  | k + 1, i, n, h => by
    show m_isum f k (i + 1) (n + (f i).getD 0) = m_isum g k (i + 1) (n + (g i).getD 0)
    rw [h i (Nat.le_refl _) (by omega)]
    exact isum_cg k (i + 1) _ (fun j a b => h j (by omega) (by omega))
theorem rga_gd {f : Nat → Nat} {a b j : Nat} (h : j < b - a) : (rga f a b)[j]?.getD 0 = f (a + j) := by rw [rga_get h]; rfl
theorem swd_p {G : PG} {f w : Nat → Nat} {a b : Nat} : ∀ k, k ≤ b - a → (∀ j, j < k → G.2.1 (f (a + j)) 2 = w (a + j)) → swd G (rga f a b) k = m_psum w k a 0
  | 0, _, _ => rfl
  | k + 1, hk, h => by
    rw [psum_sn]
    show swd G (rga f a b) k + G.2.1 ((rga f a b)[k]?.getD 0) 2 = _
    rw [swd_p k (by omega) (fun j hj => h j (by omega)), rga_gd (by omega), h k (by omega)]
theorem isum_0 (f : Nat → Option Nat) : ∀ k i n, m_isum f k i n = n + m_isum f k i 0
  | 0, _, _ => rfl
  | k + 1, i, n => by
    show m_isum f k (i + 1) (n + (f i).getD 0) = n + m_isum f k (i + 1) (0 + (f i).getD 0)
    rw [isum_0 f k (i + 1) (n + (f i).getD 0), isum_0 f k (i + 1) (0 + (f i).getD 0)]; omega
theorem swd_i {G : PG} {f : Nat → Nat} {w : Nat → Option Nat} {a b : Nat} : ∀ k, k ≤ b - a → (∀ j, j < k → G.2.1 (f (a + j)) 2 = (w (a + j)).getD 0) → swd G (rga f a b) k = m_isum w k a 0
  | 0, _, _ => rfl
  | k + 1, hk, h => by
    rw [isum_sn]
    show swd G (rga f a b) k + G.2.1 ((rga f a b)[k]?.getD 0) 2 = _
    rw [swd_i k (by omega) (fun j hj => h j (by omega)), rga_gd (by omega), h k (by omega)]
/-- IN pins stand first -/
theorem sinb_in {G : PG} {xs : List Nat} {m : Nat} : ∀ n, (∀ j, j < n → (G.2.1 (xs[j]?.getD 0) 1 = 0 ↔ j < m)) → sinb G xs 0 0 n = swd G xs (min m n)
  | 0, _ => by rw [Nat.min_zero]; rfl
  | n + 1, h => by
    show (if G.2.1 (xs[n]?.getD 0) 1 = 0 then 0 + swd G xs (n + 1) else sinb G xs 0 0 n) = _
    have q := h n (by omega)
    by_cases e : n < m
    · rw [if_pos (q.mpr e), show min m (n + 1) = n + 1 by omega, Nat.zero_add]
    · rw [if_neg (fun z => e (q.mp z)), sinb_in n (fun j hj => h j (by omega)), show min m (n + 1) = min m n by omega]
theorem sinb_no {G : PG} {xs : List Nat} {b7 b8 : Nat} : ∀ n, (∀ j, j < n → G.2.1 (xs[j]?.getD 0) 1 ≠ 0) → sinb G xs b7 b8 n = b7
  | 0, _ => rfl
  | n + 1, h => by
    show (if G.2.1 (xs[n]?.getD 0) 1 = 0 then b8 + swd G xs (n + 1) else sinb G xs b7 b8 n) = _
    rw [if_neg (h n (by omega))]
    exact sinb_no n (fun j hj => h j (by omega))
theorem swd_cg {G G' : PG} {xs : List Nat} (h : ∀ b, G'.2.1 b 2 = G.2.1 b 2) : ∀ k, swd G' xs k = swd G xs k
  | 0 => rfl
  | k + 1 => by
    show swd G' xs k + G'.2.1 _ 2 = swd G xs k + G.2.1 _ 2
    rw [swd_cg h k, h]
theorem sof_nb {G : PG} {a w b k : Nat} (hb : b ≠ a) (hk : k ≠ 4) : (sof G a w).2.1 b k = G.2.1 b k := by
  unfold sof
  split
  · show up2 (up2 (up2 G.2.1 w 4 _) a 8 _) a 7 _ b k = _
    rw [up2_a _ _ _ _ hb, up2_a _ _ _ _ hb, up2_k _ _ _ _ hk]
  · show up2 (up2 G.2.1 w 4 _) a 8 _ b k = _
    rw [up2_a _ _ _ _ hb, up2_k _ _ _ _ hk]
theorem sfo_nb {a b k : Nat} {xs : List Nat} {G : PG} (hb : b ≠ a) (hk : k ≠ 4) : ∀ n, (sfo a xs n 0 G).2.1 b k = G.2.1 b k
  | 0 => rfl
  | n + 1 => by rw [sfo_snoc, sof_nb hb hk]; exact sfo_nb hb hk n
def psw (P : PS) (c : Nat) : Nat := m_psum (P.2.2.1 21) (P.2.2.1 17 (c + 1) - P.2.2.1 17 c) (P.2.2.1 17 c) 0
/-- the offsets of chip c -/
def OFC (P : PS) (ad : Nat → Nat → Nat) (G : PG) (S : PS) (c : Nat) : Prop :=
  (∀ p, P.2.2.1 17 c ≤ p → p < P.2.2.1 17 (c + 1) → G.2.1 (ad 5 p) 4 = m_psum (P.2.2.1 21) (p - P.2.2.1 17 c) (P.2.2.1 17 c) 0) ∧
  (∀ y, P.2.2.1 36 c ≤ y → y < P.2.2.1 36 (c + 1) → G.2.1 (ad 7 y) 4 = m_isum (S.2.2.2.1 39) (y - P.2.2.1 36 c) (P.2.2.1 36 c) (psw P c)) ∧
  G.2.1 (ad 0 c) 8 = m_isum (S.2.2.2.1 39) (P.2.2.1 36 (c + 1) - P.2.2.1 36 c) (P.2.2.1 36 c) (psw P c) ∧ G.2.1 (ad 0 c) 7 = m_psum (P.2.2.1 21) (ipn P (c + 2)) (P.2.2.1 17 c) 0
/-- setOffsets -/
def sta (ad : Nat → Nat → Nat) (P : PS) (c : Nat) (G : PG) : PG := sfo (ad 0 c) (rga (ad 7) (P.2.2.1 36 c) (P.2.2.1 36 (c + 1))) (rga (ad 7) (P.2.2.1 36 c) (P.2.2.1 36 (c + 1))).length 0 (sfo (ad 0 c) (rga (ad 5) (P.2.2.1 17 c) (P.2.2.1 17 (c + 1))) (rga (ad 5) (P.2.2.1 17 c) (P.2.2.1 17 (c + 1))).length 0 (gN (gN G (ad 0 c) 8 0) (ad 0 c) 7 0))
/-- setOffsets: all but the offsets of chip c is as before -/
def sto (P : PS) (ad : Nat → Nat → Nat) (c : Nat) (G G' : PG) : Prop := sq G G' ∧ G'.2.2 = G.2.2 ∧ (∀ b k, k ≠ 4 → k ≠ 8 → k ≠ 7 → G'.2.1 b k = G.2.1 b k) ∧ ∀ b, b ≠ ad 0 c → (∀ p, P.2.2.1 17 c ≤ p → p < P.2.2.1 17 (c + 1) → b ≠ ad 5 p) → (∀ y, P.2.2.1 36 c ≤ y → y < P.2.2.1 36 (c + 1) → b ≠ ad 7 y) → gs G G' b
section STO
variable {t0 qc qna qdf : Nat} {ft tv gw gp : Nat → Int32} {nv : Nat → Nat} {T : Nat} {fk : Nat → Int32} {pp nn : Nat → Nat} {fh fl : Nat → Int64} {G G' : PG} {ad : Nat → Nat → Nat} {tg : Nat → Nat × Nat} {P S S' : PS} {c q l i x y ld : Nat}
theorem pin_kind (hR : RF t0 qc qna qdf ft tv fh fl pp nn G ad tg P) (h : KC ft tv gw gp nv T fk pp nn fh fl P) (hc : c < P.1 15) : ∀ j, j < (rga (ad 5) (P.2.2.1 17 c) (P.2.2.1 17 (c + 1))).length → (G.2.1 ((rga (ad 5) (P.2.2.1 17 c) (P.2.2.1 17 (c + 1)))[j]?.getD 0) 1 = 0 ↔ j < ipn P (c + 2)) := by
  intro j hj
  have b := h.p17 hc
  rw [rga_len] at hj
  obtain ⟨-, f2, f3, f4⟩ := ipn_f (i := c + 2) hR h (by omega)
  have ex : pxs ad P (c + 2) = rga (ad 5) (P.2.2.1 17 c) (P.2.2.1 17 (c + 1)) := if_pos (by omega)
  have ep : ∀ x, pad ad (c + 2) x = ad 5 x := fun x => if_pos (by omega)
  have ev : ∀ x, vpn P (c + 2) x ↔ (P.2.2.1 17 c ≤ x ∧ x < P.2.2.1 17 (c + 1)) ∧ P.2.2.2.2 19 x = false := fun x => by
    unfold vpn m_isOut
    rw [if_pos (by omega), if_pos (by omega)]
    exact Iff.rfl
  rw [ex] at f2 f3 f4
  rw [rga_gd hj]
  have v := (hR.2.2.2.2.2.1 (P.2.2.1 17 c + j) (by omega)).1.2.2.1
  rw [v]
  constructor
  · intro e
    have e19 : P.2.2.2.2 19 (P.2.2.1 17 c + j) = false := by
      by_cases z : P.2.2.2.2 19 (P.2.2.1 17 c + j) = true
      · rw [if_pos z] at e; cases e
      · exact Bool.eq_false_iff.mpr z
    obtain ⟨j', a1, a2⟩ := f4 (P.2.2.1 17 c + j) ((ev _).mpr ⟨⟨by omega, by omega⟩, e19⟩)
    rw [rga_len] at f2
    rw [rga_gd (by omega), ep] at a2
    by_cases z : j' = j
    · omega
    · exact absurd a2 (hR.1.ne (show P.2.2.1 17 c + j' < cno P 5 by show _ < P.1 18; omega) (show P.2.2.1 17 c + j < cno P 5 by show _ < P.1 18; omega) (by omega))
  · intro e
    obtain ⟨x, a1, a2⟩ := f3 j e
    rw [rga_gd hj, ep] at a2
    have a1 := (ev x).mp a1
    by_cases z : x = P.2.2.1 17 c + j
    · rw [z] at a1; rw [a1.2]; rfl
    · exact absurd a2 (hR.1.ne (show P.2.2.1 17 c + j < cno P 5 by show _ < P.1 18; omega) (show x < cno P 5 by show _ < P.1 18; omega) (by omega))
theorem sta_sto (hR : RF t0 qc qna qdf ft tv fh fl pp nn G ad tg P) (h : KC ft tv gw gp nv T fk pp nn fh fl P) (hc : c < P.1 15) : sto P ad c G (sta ad P c G) := by
  have b := h.p17 hc
  have b2 := h.p36 hc
  have c1 := (hR.2.2.2.2.1 c hc).1.1
  obtain ⟨k1, k2, k3⟩ := sfo_k (a := ad 0 c) (xs := rga (ad 5) (P.2.2.1 17 c) (P.2.2.1 17 (c + 1))) (G := gN (gN G (ad 0 c) 8 0) (ad 0 c) 7 0) (rga (ad 5) (P.2.2.1 17 c) (P.2.2.1 17 (c + 1))).length
  obtain ⟨m1, m2, m3⟩ := sfo_k (a := ad 0 c) (xs := rga (ad 7) (P.2.2.1 36 c) (P.2.2.1 36 (c + 1))) (G := sfo (ad 0 c) (rga (ad 5) (P.2.2.1 17 c) (P.2.2.1 17 (c + 1))) (rga (ad 5) (P.2.2.1 17 c) (P.2.2.1 17 (c + 1))).length 0 (gN (gN G (ad 0 c) 8 0) (ad 0 c) 7 0)) (rga (ad 7) (P.2.2.1 36 c) (P.2.2.1 36 (c + 1))).length
  have e0 : (sta ad P c G).1 = G.1 := m1.trans k1
  have e2 : (sta ad P c G).2.2 = G.2.2 := m2.trans k2
  have e3 : ∀ b k, k ≠ 4 → k ≠ 8 → k ≠ 7 → (sta ad P c G).2.1 b k = G.2.1 b k := fun b k a d e => by
    refine (m3 b k a d e).trans ((k3 b k a d e).trans ?_)
    show up2 (up2 G.2.1 (ad 0 c) 8 0) (ad 0 c) 7 0 b k = _
    rw [up2_k _ _ _ _ e, up2_k _ _ _ _ d]
  have e4 : ∀ b, b ≠ ad 0 c → (∀ p, P.2.2.1 17 c ≤ p → p < P.2.2.1 17 (c + 1) → b ≠ ad 5 p) → (∀ y, P.2.2.1 36 c ≤ y → y < P.2.2.1 36 (c + 1) → b ≠ ad 7 y) → gs G (sta ad P c G) b := fun b hb h5 h7 => by
    refine (((gs_N hb).tr (gs_N hb)).tr (sfo_gs _ b hb (fun j hj => ?_))).tr (sfo_gs _ b hb (fun j hj => ?_))
    · rw [rga_len] at hj; rw [rga_gd hj]; exact h5 _ (by omega) (by omega)
    · rw [rga_len] at hj; rw [rga_gd hj]; exact h7 _ (by omega) (by omega)
  refine ⟨⟨e0, by rw [e2], by rw [e2], fun b k a d _ f g => e3 b k d g f, fun b _ => e3 b 2 (by decide) (by decide) (by decide), fun b hb => ?_, fun b hb => ?_, fun b k _ => by rw [e2], fun b _ _ => by rw [e2]⟩, e2, e3, e4⟩
  · by_cases z : b = ad 0 c
    · refine ⟨?_, e3 b 5 (by decide) (by decide) (by decide)⟩
      have s1 := fun (xs : List Nat) (hx : ∀ i, i < xs.length → xs[i]?.getD 0 ≠ ad 0 c) (hd : ∀ i j, i < j → j < xs.length → xs[i]?.getD 0 ≠ xs[j]?.getD 0) (G : PG) => (sfo_spec (a := ad 0 c) (xs := xs) (G := G) hx hd xs.length (Nat.le_refl _)).2.2.2 (ad 0 c) (fun j hj => hx j hj)
      rw [z]
      refine (s1 _ (fun i hi => ?_) (fun i j hij hj => ?_) _).trans ((s1 _ (fun i hi => ?_) (fun i j hij hj => ?_) _).trans ?_)
      · rw [rga_len] at hi; rw [rga_gd hi]; exact hR.1.ne (show _ < cno P 7 by show _ < P.1 37; omega) (show c < cno P 0 from hc) (fun r => absurd r.1 (by decide))
      · rw [rga_len] at hj; rw [rga_gd hj, rga_gd (by omega)]; exact hR.1.ne (show _ < cno P 7 by show _ < P.1 37; omega) (show _ < cno P 7 by show _ < P.1 37; omega) (by omega)
      · rw [rga_len] at hi; rw [rga_gd hi]; exact hR.1.ne (show _ < cno P 5 by show _ < P.1 18; omega) (show c < cno P 0 from hc) (fun r => absurd r.1 (by decide))
      · rw [rga_len] at hj; rw [rga_gd hj, rga_gd (by omega)]; exact hR.1.ne (show _ < cno P 5 by show _ < P.1 18; omega) (show _ < cno P 5 by show _ < P.1 18; omega) (by omega)
      · show up2 (up2 G.2.1 (ad 0 c) 8 0) (ad 0 c) 7 0 (ad 0 c) 4 = _
        rw [up2_k _ _ _ _ (by decide), up2_k _ _ _ _ (by decide)]
    · have := e4 b z (fun p p1 p2 e => hb (by rw [e]; exact (hR.1 5 p (show p < P.1 18 by omega)).1)) (fun y y1 y2 e => hb (by rw [e]; exact (hR.1 7 y (show y < P.1 37 by omega)).1))
      rw [this.2.1]; exact ⟨rfl, rfl⟩
  · have g7 : ∀ k, k ≠ 4 → (sta ad P c G).2.1 b k = G.2.1 b k := fun k hk => by
      have nb : b ≠ ad 0 c := fun e => hb (by rw [e]; exact c1)
      have s2 := fun (xs : List Nat) (G : PG) => sfo_nb (a := ad 0 c) (xs := xs) (G := G) nb hk xs.length
      refine (s2 _ _).trans ((s2 _ _).trans ?_)
      show up2 (up2 G.2.1 (ad 0 c) 8 0) (ad 0 c) 7 0 b k = _
      rw [up2_a _ _ _ _ nb, up2_a _ _ _ _ nb]
    exact ⟨g7 7 (by decide), g7 8 (by decide)⟩
theorem sta_ofc (hR : RF t0 qc qna qdf ft tv fh fl pp nn G ad tg P) (h : KC ft tv gw gp nv T fk pp nn fh fl P) (hc : c < P.1 15) (hw : ∀ y, P.2.2.1 36 c ≤ y → y < P.2.2.1 36 (c + 1) → G.2.1 (ad 7 y) 2 = (S.2.2.2.1 39 y).getD 0) : OFC P ad (sta ad P c G) S c := by
  have b := h.p17 hc
  have b2 := h.p36 hc
  have pk := pin_kind hR h hc
  have f2 := (ipn_f (i := c + 2) hR h (by omega)).2.1
  have ex : pxs ad P (c + 2) = rga (ad 5) (P.2.2.1 17 c) (P.2.2.1 17 (c + 1)) := if_pos (by omega)
  rw [ex] at f2
  have n5 : ∀ i, i < (rga (ad 5) (P.2.2.1 17 c) (P.2.2.1 17 (c + 1))).length → (rga (ad 5) (P.2.2.1 17 c) (P.2.2.1 17 (c + 1)))[i]?.getD 0 ≠ ad 0 c := fun i hi => by
    rw [rga_len] at hi; rw [rga_gd hi]; exact hR.1.ne (show _ < cno P 5 by show _ < P.1 18; omega) (show c < cno P 0 from hc) (fun r => absurd r.1 (by decide))
  have d5 : ∀ i j, i < j → j < (rga (ad 5) (P.2.2.1 17 c) (P.2.2.1 17 (c + 1))).length → (rga (ad 5) (P.2.2.1 17 c) (P.2.2.1 17 (c + 1)))[i]?.getD 0 ≠ (rga (ad 5) (P.2.2.1 17 c) (P.2.2.1 17 (c + 1)))[j]?.getD 0 := fun i j hij hj => by
    rw [rga_len] at hj; rw [rga_gd hj, rga_gd (by omega)]; exact hR.1.ne (show _ < cno P 5 by show _ < P.1 18; omega) (show _ < cno P 5 by show _ < P.1 18; omega) (by omega)
  have n7 : ∀ i, i < (rga (ad 7) (P.2.2.1 36 c) (P.2.2.1 36 (c + 1))).length → (rga (ad 7) (P.2.2.1 36 c) (P.2.2.1 36 (c + 1)))[i]?.getD 0 ≠ ad 0 c := fun i hi => by
    rw [rga_len] at hi; rw [rga_gd hi]; exact hR.1.ne (show _ < cno P 7 by show _ < P.1 37; omega) (show c < cno P 0 from hc) (fun r => absurd r.1 (by decide))
  have d7 : ∀ i j, i < j → j < (rga (ad 7) (P.2.2.1 36 c) (P.2.2.1 36 (c + 1))).length → (rga (ad 7) (P.2.2.1 36 c) (P.2.2.1 36 (c + 1)))[i]?.getD 0 ≠ (rga (ad 7) (P.2.2.1 36 c) (P.2.2.1 36 (c + 1)))[j]?.getD 0 := fun i j hij hj => by
    rw [rga_len] at hj; rw [rga_gd hj, rga_gd (by omega)]; exact hR.1.ne (show _ < cno P 7 by show _ < P.1 37; omega) (show _ < cno P 7 by show _ < P.1 37; omega) (by omega)
  unfold sta
  generalize eG0 : gN (gN G (ad 0 c) 8 0) (ad 0 c) 7 0 = G0
  have a8 : G0.2.1 (ad 0 c) 8 = 0 := by rw [← eG0]; show up2 (up2 G.2.1 (ad 0 c) 8 0) (ad 0 c) 7 0 (ad 0 c) 8 = 0; rw [up2_k _ _ _ _ (by decide), up2_s]
  have a7 : G0.2.1 (ad 0 c) 7 = 0 := by rw [← eG0]; exact up2_s _ _ _ _
  have ak : ∀ b k, k ≠ 7 → k ≠ 8 → G0.2.1 b k = G.2.1 b k := fun b k h1 h2 => by rw [← eG0]; show up2 (up2 G.2.1 (ad 0 c) 8 0) (ad 0 c) 7 0 b k = _; rw [up2_k _ _ _ _ h1, up2_k _ _ _ _ h2]
  clear eG0
  obtain ⟨s8, s7, s4, sb⟩ := sfo_spec (G := G0) n5 d5 _ (Nat.le_refl _)
  obtain ⟨k1, k2, k3⟩ := sfo_k (a := ad 0 c) (xs := rga (ad 5) (P.2.2.1 17 c) (P.2.2.1 17 (c + 1))) (G := G0) (rga (ad 5) (P.2.2.1 17 c) (P.2.2.1 17 (c + 1))).length
  generalize sfo (ad 0 c) (rga (ad 5) (P.2.2.1 17 c) (P.2.2.1 17 (c + 1))) (rga (ad 5) (P.2.2.1 17 c) (P.2.2.1 17 (c + 1))).length 0 G0 = X1 at s8 s7 s4 sb k1 k2 k3 ⊢
  obtain ⟨r8, r7, r4, rb⟩ := sfo_spec (G := X1) n7 d7 _ (Nat.le_refl _)
  generalize sfo (ad 0 c) (rga (ad 7) (P.2.2.1 36 c) (P.2.2.1 36 (c + 1))) (rga (ad 7) (P.2.2.1 36 c) (P.2.2.1 36 (c + 1))).length 0 X1 = X2 at r8 r7 r4 rb ⊢
  have w5 : ∀ k, k ≤ P.2.2.1 17 (c + 1) - P.2.2.1 17 c → swd G0 (rga (ad 5) (P.2.2.1 17 c) (P.2.2.1 17 (c + 1))) k = m_psum (P.2.2.1 21) k (P.2.2.1 17 c) 0 := fun k hk => swd_p k hk (fun j hj => by rw [ak _ 2 (by decide) (by decide)]; exact (hR.2.2.2.2.2.1 _ (by omega)).1.2.2.2.1)
  have w7 : ∀ k, k ≤ P.2.2.1 36 (c + 1) - P.2.2.1 36 c → swd X1 (rga (ad 7) (P.2.2.1 36 c) (P.2.2.1 36 (c + 1))) k = m_isum (S.2.2.2.1 39) k (P.2.2.1 36 c) 0 := fun k hk => swd_i k hk (fun j hj => by rw [k3 _ 2 (by decide) (by decide) (by decide), ak _ 2 (by decide) (by decide)]; exact hw _ (by omega) (by omega))
  rw [a8, rga_len, w5 _ (Nat.le_refl _), Nat.zero_add] at s8
  rw [a7, a8, sinb_in _ (fun j hj => by rw [ak _ 1 (by decide) (by decide)]; exact pk j hj), Nat.min_eq_left f2] at s7
  rw [rga_len] at f2
  rw [w5 _ f2] at s7
  rw [rga_len] at r8 r7 r4 rb s4
  rw [sinb_no _ (fun j hj => by rw [rga_gd hj, k3 _ 1 (by decide) (by decide) (by decide), ak _ 1 (by decide) (by decide), (hR.2.2.2.2.2.2.1 _ (by omega)).1.2.2]; decide)] at r7
  refine ⟨fun p p1 p2 => ?_, fun y y1 y2 => ?_, ?_, r7.trans s7⟩
  · rw [rb _ (fun j hj => by rw [rga_gd hj]; exact hR.1.ne (show _ < cno P 7 by show _ < P.1 37; omega) (show p < cno P 5 by show _ < P.1 18; omega) (fun r => absurd r.1 (by decide)))]
    have e := s4 (p - P.2.2.1 17 c) (by omega)
    rw [rga_gd (by omega), show P.2.2.1 17 c + (p - P.2.2.1 17 c) = p by omega, a8, Nat.zero_add, w5 _ (by omega)] at e
    exact e
  · have e := r4 (y - P.2.2.1 36 c) (by omega)
    rw [rga_gd (by omega), show P.2.2.1 36 c + (y - P.2.2.1 36 c) = y by omega, s8, w7 _ (by omega)] at e
    rw [e, isum_0 _ _ _ (psw P c)]; rfl
  · rw [r8, s8, w7 _ (Nat.le_refl _), isum_0 _ _ _ (psw P c)]; rfl
theorem mono_le {f : Nat → Nat} {n : Nat} (h : ∀ c, c < n → f c ≤ f (c + 1)) : ∀ k a, a + k ≤ n → f a ≤ f (a + k)
  | 0, _, _ => Nat.le_refl _
  | k + 1, a, hk => Nat.le_trans (mono_le h k a (by omega)) (h (a + k) (by omega))
theorem mono_lt {f : Nat → Nat} {n a b : Nat} (h : ∀ c, c < n → f c ≤ f (c + 1)) (hab : a ≤ b) (hb : b ≤ n) : f a ≤ f b := by
  have := mono_le h (b - a) a (by omega)
  rw [show a + (b - a) = b by omega] at this; exact this
/-- the gates' bits -/
def GO4 (G : PG) (ad : Nat → Nat → Nat) : Prop := (G.2.1 (ad 17 0) 7 = 2 ∧ G.2.1 (ad 17 0) 8 = 3) ∧ (G.2.1 (ad 17 1) 7 = 1 ∧ G.2.1 (ad 17 1) 8 = 2) ∧ ∀ j, j < 5 → G.2.1 (ad 22 j) 4 = (if j < 3 then j else j - 3)
/-- the chips from c on are as the parser left them -/
def FRC (G : PG) (ad : Nat → Nat → Nat) (P : PS) (c : Nat) : Prop := (∀ p, P.2.2.1 17 c ≤ p → p < P.1 18 → P.2.2.2.2 19 p = true → G.2.1 (ad 5 p) 5 = 0) ∧ ∀ y, P.2.2.1 36 c ≤ y → y < P.1 37 → G.2.1 (ad 7 y) 5 = 0 ∧ G.2.2.2.1 (ad 7 y) 6 = false
/-- link l of chip c is right, and the widths of inner names are known -/
def LOF (ft gp : Nat → Int32) (P S : PS) (c i x l : Nat) : Prop :=
  q_pin ft gp P i (P.2.2.1 28 l) = some x ∧ m_fits (P.2.2.2.1 29 l) (P.2.2.1 30 l) (P.2.2.1 31 l) (m_wd (P.2.2.1 21) i x) = true ∧ (m_isOut (P.2.2.2.2 19) i x = true → P.2.2.1 7 (P.2.2.1 32 l) = 1) ∧
  (P.2.2.1 7 (P.2.2.1 32 l) = 1 → (∃ z, q_own ft P c (P.2.2.1 32 l) = some z ∧ P.2.2.2.2 19 z = m_isOut (P.2.2.2.2 19) i x ∧ m_fits (P.2.2.2.1 33 l) (P.2.2.1 34 l) (P.2.2.1 35 l) (P.2.2.1 21 z) = true ∧ m_bits (P.2.2.2.1 33 l) (P.2.2.1 34 l) (P.2.2.1 35 l) (P.2.2.1 21 z) = q_mb P i x l) ∨
    ∃ y, q_own ft P c (P.2.2.1 32 l) = none ∧ q_inn ft P c (P.2.2.1 32 l) = some y ∧ P.2.2.2.1 33 l = none ∧ S.2.2.2.1 39 y = some (q_mb P i x l))
/-- the parts of chip c are right -/
def LOC (ft gp : Nat → Int32) (P S : PS) (c : Nat) : Prop := ∀ q, P.2.2.1 23 c ≤ q → q < P.2.2.1 23 (c + 1) → ∃ i, S.2.2.2.1 44 q = some i ∧ i < P.1 15 + 2 ∧ ∀ l, P.2.2.1 26 q ≤ l → l < P.2.2.1 26 (q + 1) → ∃ x, LOF ft gp P S c i x l
theorem LOC.o (o : LOC ft gp P S c) (h4 : ∀ q, q < P.2.2.1 23 (c + 1) → S'.2.2.2.1 44 q = S.2.2.2.1 44 q) (h3 : ∀ y, P.2.2.1 36 c ≤ y → y < P.2.2.1 36 (c + 1) → S'.2.2.2.1 39 y = S.2.2.2.1 39 y) (b36 : P.2.2.1 36 c ≤ P.2.2.1 36 (c + 1)) : LOC ft gp P S' c := fun q q1 q2 => by
  obtain ⟨i, a1, a2, a3⟩ := o q q1 q2
  refine ⟨i, by rw [h4 q q2]; exact a1, a2, fun l l1 l2 => ?_⟩
  obtain ⟨x, b1, b2, b3, b4⟩ := a3 l l1 l2
  refine ⟨x, b1, b2, b3, fun k => ?_⟩
  rcases b4 k with e | ⟨y, e1, e2, e3, e4⟩
  · exact Or.inl e
  · have := m_find_in _ _ _ e2
    exact Or.inr ⟨y, e1, e2, e3, by rw [h3 y (by omega) (by omega)]; exact e4⟩
theorem loc_of (h : KC ft tv gw gp nv T fk pp nn fh fl P) (hk : kp P S) (hc : c < P.1 15) (f : FO ft gp P S c ld) (d : LKD ft gp P S c (P.2.2.1 26 (P.2.2.1 23 (c + 1)))) (rs : ∀ q, q < P.2.2.1 23 (c + 1) → ∀ i, S.2.2.2.1 44 q = some i → i < P.1 15 + 2) (hs : ∀ q, P.2.2.1 23 c ≤ q → q < P.2.2.1 23 (c + 1) → ∃ i, S.2.2.2.1 44 q = some i) : LOC ft gp P S c := fun q q1 q2 => by
  obtain ⟨i, a1⟩ := hs q q1 q2
  refine ⟨i, a1, rs q q2 i a1, fun l l1 l2 => ?_⟩
  have hi : inl P c q l := ⟨hc, ⟨q1, q2⟩, l1, l2⟩
  obtain ⟨i', x, b0, -, b1, b2, b3, b4⟩ := d q l hi (ln_lt h hi)
  have ei : i' = i := Option.some.inj (b0.symm.trans a1)
  subst ei
  refine ⟨x, b1, b2, b3, fun k => ?_⟩
  rcases b4 k with e | ⟨y, e1, e2, e3, e4⟩
  · exact Or.inl e
  · refine Or.inr ⟨y, e1, e2, e3, ?_⟩
    rcases e4 with ⟨-, e4⟩ | e4
    · have br := m_find_in _ _ _ e2
      have b36 := h.p36 hc
      rcases f y (by omega) (by omega) with ⟨z, -⟩ | ⟨q0, l0, i0, x0, -, o, z, -⟩
      · rw [e4] at z; cases z
      · obtain ⟨i2, x2, d0, -, d1, d2, -⟩ := d q0 l0 o.1 (ln_lt h o.1)
        have ei : i2 = i0 := Option.some.inj (d0.symm.trans o.2.1)
        subst ei
        have ex : x2 = x0 := Option.some.inj (d1.symm.trans o.2.2.2.1)
        subst ex
        rw [e4] at z
        unfold q_lb at z
        rw [if_pos d2] at z
        cases z
    · exact e4
theorem fil44_part (hk : kp P S) {q' : Nat} (hq : q' ≠ q) : (fi_part ft gw gp c q S).2.2.2.1 44 q' = S.2.2.2.1 44 q' := by
  have e : (fi_is ft gw q S).2.2.2.1 44 q' = S.2.2.2.1 44 q' := aos_k (S := S) (k := 44) (k' := 44) (j := q) (j' := q') (fun z => hq z.2)
  have hk2 : kp P (fi_is ft gw q S) := kp_tr hk (kp_aos (Or.inr rfl))
  unfold fi_part
  rcases q_chip ft gw S (S.2.2.1 25 q) with _ | i
  · exact e
  · exact (congrFun (s44_links (P := P) _ _ _ hk2) q').trans e
theorem fil44_parts {q' : Nat} : ∀ k q S, kp P S → q' < q → (fi_parts ft gw gp c k q S).2.2.2.1 44 q' = S.2.2.2.1 44 q'
  | 0, _, _, _, _ => rfl
  | k + 1, q, S, hk, hq => (fil44_parts k (q + 1) _ (kp_tr hk (kp_fipart _ _ _ _ _ _)) (by omega)).trans (fil44_part hk (by omega))
/-- what holds between the chips: those below c are checked -/
def CKB (t0 qc qna qdf : Nat) (ft tv gp : Nat → Int32) (fh fl : Nat → Int64) (pp nn : Nat → Nat) (ad : Nat → Nat → Nat) (tg : Nat → Nat × Nat) (P : PS) (L : List Nat) (G : PG) (S : PS) (c : Nat) : Prop :=
  RF t0 qc qna qdf ft tv fh fl pp nn G ad tg P ∧ WB G ad P ∧ gL L G ∧ kp P S ∧ RSV ft gp P ad G S (P.2.2.1 23 c) (P.2.2.1 26 (P.2.2.1 23 c)) (P.2.2.1 36 c) ∧ FRC G ad P c ∧ GO4 G ad ∧ (∀ c', c' < c → OFC P ad G S c') ∧ (∀ y, y < P.2.2.1 36 c → S.2.2.2.1 39 y ≠ some 0) ∧ s44 S ∧ ∀ c', c' < c → LOC ft gp P S c'
theorem CKB.rsp {L : List Nat} (r : CKB t0 qc qna qdf ft tv gp fh fl pp nn ad tg P L G S c) (h : KC ft tv gw gp nv T fk pp nn fh fl P) (hc : c < P.1 15) : RSP t0 qc qna qdf ft tv gp fh fl pp nn ad tg P L (P.2.2.1 36 (c + 1)) G G (fi_0 (P.2.2.1 36 (c + 1) - P.2.2.1 36 c) (P.2.2.1 36 c) S) (P.2.2.1 23 c) (P.2.2.1 26 (P.2.2.1 23 c)) := by
  obtain ⟨hR, wb, hL, hk, rs, fr, -⟩ := r
  obtain ⟨z1, z2, z3⟩ := fi0_39 (P.2.2.1 36 (c + 1) - P.2.2.1 36 c) (P.2.2.1 36 c) S
  have b2 := h.p36 hc
  refine ⟨hR, wb, hL, rq.rf P ad _ G, kp_tr hk (kp_fi0 _ _ _), fun q hq => by rw [z3]; exact rs.1 q hq, fun q l i a b d e f => rs.2.1 q l i a b d e (by rw [z3] at f; exact f), fun y hy => ?_⟩
  by_cases e : y < P.2.2.1 36 c
  · rw [(z2 y (by omega)).1]; exact rs.2.2 y e
  · have q := z1 y (by omega) (by omega)
    exact ⟨fun _ => (fr.2 y (by omega) (by omega)).2, fun z => absurd q.1 z⟩
/-- the state that checkParts begins with -/
theorem CKB.kso {L : List Nat} {G1 : PG} (r : CKB t0 qc qna qdf ft tv gp fh fl pp nn ad tg P L G S c) (h : KC ft tv gw gp nv T fk pp nn fh fl P) (hc : c < P.1 15) (r1 : RSP t0 qc qna qdf ft tv gp fh fl pp nn ad tg P L (P.2.2.1 36 (c + 1)) G G1 (fi_parts ft gw gp c (P.2.2.1 23 (c + 1) - P.2.2.1 23 c) (P.2.2.1 23 c) (fi_0 (P.2.2.1 36 (c + 1) - P.2.2.1 36 c) (P.2.2.1 36 c) S)) (P.2.2.1 23 (c + 1)) (P.2.2.1 26 (P.2.2.1 23 (c + 1)))) :
    KSO t0 qc qna qdf ft tv gp fh fl pp nn ad tg P L c G1 G1 (rz 49 200 0 (fi_parts ft gw gp c (P.2.2.1 23 (c + 1) - P.2.2.1 23 c) (P.2.2.1 23 c) (fi_0 (P.2.2.1 36 (c + 1) - P.2.2.1 36 c) (P.2.2.1 36 c) S))) (P.2.2.1 26 (P.2.2.1 23 c)) := by
  obtain ⟨hR, wb, hL, hk, rs, fr, -⟩ := r
  obtain ⟨z1, z2, z3⟩ := fi0_39 (P.2.2.1 36 (c + 1) - P.2.2.1 36 c) (P.2.2.1 36 c) S
  have b1 := h.p17 hc
  have b2 := h.p36 hc
  have b3 := h.p23 hc
  have k0 : kp P (fi_0 (P.2.2.1 36 (c + 1) - P.2.2.1 36 c) (P.2.2.1 36 c) S) := kp_tr hk (kp_fi0 _ _ _)
  have f0 := fo_0 (gp := gp) (S := fi_0 (P.2.2.1 36 (c + 1) - P.2.2.1 36 c) (P.2.2.1 36 c) S) h hc (fun y y1 y2 => (z1 y y1 (by omega)).1)
  have f1 := fo_parts (gw := gw) hR h hc (P.2.2.1 23 (c + 1) - P.2.2.1 23 c) (P.2.2.1 23 c) _ k0 (Nat.le_refl _) (by omega) f0
  have fl1 := fil_parts (ft := ft) (gw := gw) (gp := gp) (c := c) (P.2.2.1 23 (c + 1) - P.2.2.1 23 c) (P.2.2.1 23 c) _ k0
  generalize fi_parts ft gw gp c (P.2.2.1 23 (c + 1) - P.2.2.1 23 c) (P.2.2.1 23 c) (fi_0 (P.2.2.1 36 (c + 1) - P.2.2.1 36 c) (P.2.2.1 36 c) S) = S1 at r1 f1 fl1 ⊢
  obtain ⟨hR1, wb1, hL1, hq1, hk1, rs1⟩ := r1
  obtain ⟨y1, y2, y3⟩ := rz_48 49 200 0 S1
  have s18 : P.1 18 ≤ 8 * P.1 15 := h.2.2.1.2.2.2.1.2.1
  have s15 : P.1 15 ≤ 8 := h.2.2.1.2.2.2.1.1
  refine ⟨hR1, wb1, hL1, lq.rf P ad c G1, kp_tr hk1 (kp_rz 49 (Or.inr rfl) 200 0 S1), ?_, f1.o (by rw [y3]), ?_, ?_⟩
  · obtain ⟨r1, r2, r3⟩ := rs1
    exact ⟨fun q hq => by rw [y3]; exact r1 q hq, fun q l i a b d e f => r2 q l i a b d e (by rw [y3] at f; exact f), fun y hy => by rw [y3]; exact r3 y hy⟩
  · refine ⟨fun p p1 p2 p3 => ?_, fun y a d => ?_, fun q l i x y a o => ?_⟩
    · rw [hq1.2.1 _ 5 (by decide), fr.1 p p1 (by omega) p3]
      exact (y1 p (Nat.zero_le _) (by omega)).symm
    · rw [hq1.2.1 _ 5 (by decide), (fr.2 y a (by omega)).1, y3, fl1.1, (z1 y a (by omega)).2]
      exact ⟨fun e => absurd rfl e, fun e => by cases e⟩
    · have o1 := o.1
      obtain ⟨o2, -⟩ := h.inl o1
      have m := (h.2.2.1.1.2.2.1.fm (P.2.2.1 23 c) q o1.2.1.1 o2).1
      have := o1.2.2.1
      omega
  · intro q l hi hl
    obtain ⟨o2, -⟩ := h.inl hi
    have m := (h.2.2.1.1.2.2.1.fm (P.2.2.1 23 c) q hi.2.1.1 o2).1
    have := hi.2.2.1
    omega
/-- a chip is checked, and its offsets are set -/
theorem CKB.next {L : List Nat} {G1 G2 : PG} {S2 : PS} (r : CKB t0 qc qna qdf ft tv gp fh fl pp nn ad tg P L G S c) (h : KC ft tv gw gp nv T fk pp nn fh fl P) (hc : c < P.1 15) (r1 : RSP t0 qc qna qdf ft tv gp fh fl pp nn ad tg P L (P.2.2.1 36 (c + 1)) G G1 (fi_parts ft gw gp c (P.2.2.1 23 (c + 1) - P.2.2.1 23 c) (P.2.2.1 23 c) (fi_0 (P.2.2.1 36 (c + 1) - P.2.2.1 36 c) (P.2.2.1 36 c) S)) (P.2.2.1 23 (c + 1)) (P.2.2.1 26 (P.2.2.1 23 (c + 1))))
    (hS2 : S2 = (kl_parts ft gp c (P.2.2.1 23 (c + 1) - P.2.2.1 23 c) (P.2.2.1 23 c) (rz 49 200 0 (fi_parts ft gw gp c (P.2.2.1 23 (c + 1) - P.2.2.1 23 c) (P.2.2.1 23 c) (fi_0 (P.2.2.1 36 (c + 1) - P.2.2.1 36 c) (P.2.2.1 36 c) S)))).2) (hn : (kl_parts ft gp c (P.2.2.1 23 (c + 1) - P.2.2.1 23 c) (P.2.2.1 23 c) (rz 49 200 0 (fi_parts ft gw gp c (P.2.2.1 23 (c + 1) - P.2.2.1 23 c) (P.2.2.1 23 c) (fi_0 (P.2.2.1 36 (c + 1) - P.2.2.1 36 c) (P.2.2.1 36 c) S)))).1 = none)
    (r2 : KSO t0 qc qna qdf ft tv gp fh fl pp nn ad tg P L c G1 G2 S2 (P.2.2.1 26 (P.2.2.1 23 (c + 1)))) : CKB t0 qc qna qdf ft tv gp fh fl pp nn ad tg P L (sta ad P c G2) S2 (c + 1) := by
  have ks := CKB.kso r h hc r1
  obtain ⟨hR, wb, hL, hk, rs, fr, g4, ofc, gv, hs, lo⟩ := r
  obtain ⟨z1, z2, z3⟩ := fi0_39 (P.2.2.1 36 (c + 1) - P.2.2.1 36 c) (P.2.2.1 36 c) S
  have b1 := h.p17 hc
  have b2 := h.p36 hc
  have b3 := h.p23 hc
  have k0 : kp P (fi_0 (P.2.2.1 36 (c + 1) - P.2.2.1 36 c) (P.2.2.1 36 c) S) := kp_tr hk (kp_fi0 _ _ _)
  have fl1 := fil_parts (ft := ft) (gw := gw) (gp := gp) (c := c) (P.2.2.1 23 (c + 1) - P.2.2.1 23 c) (P.2.2.1 23 c) _ k0
  have l44 : ∀ q, q < P.2.2.1 23 c → _ := fun q hq => (fil44_parts (P := P) (ft := ft) (gw := gw) (gp := gp) (c := c) (q' := q) (P.2.2.1 23 (c + 1) - P.2.2.1 23 c) (P.2.2.1 23 c) _ k0 hq).trans (congrFun z3 q)
  have s1 := s44_parts (c := c) h (P.2.2.1 23 (c + 1) - P.2.2.1 23 c) (P.2.2.1 23 c) _ k0 (by omega) (fun q i e => hs q i (by rw [z3] at e; exact e))
  generalize fi_parts ft gw gp c (P.2.2.1 23 (c + 1) - P.2.2.1 23 c) (P.2.2.1 23 c) (fi_0 (P.2.2.1 36 (c + 1) - P.2.2.1 36 c) (P.2.2.1 36 c) S) = S1 at r1 fl1 s1 hS2 hn ks l44
  have gn : ∀ y, P.2.2.1 36 c ≤ y → y < P.2.2.1 36 (c + 1) → (rz 49 200 0 S1).2.2.2.1 39 y ≠ some 0 := fun y y1 y2 => gvn ks.1 h ks.2.2.2.2.1 hc ks.2.2.2.2.2.2.1 (fun q i a b => (ks.2.2.2.2.2.1.1 q a).2 i b) hn y1 y2
  have eO : S2.2.2.2.1 = S1.2.2.2.1 := by rw [hS2, klps_O]; rw [(rz_48 49 200 0 S1).2.2]
  rw [(rz_48 49 200 0 S1).2.2] at gn
  have e39 : ∀ y, y < P.2.2.1 36 c → S2.2.2.2.1 39 y = S.2.2.2.1 39 y := fun y hy => by rw [eO, fl1.2 y (by omega), (z2 y (by omega)).1]
  obtain ⟨hR1, wb1, hL1, hq1, hk1, rs1⟩ := r1
  obtain ⟨hR2, wb2, hL2, lq2, hk2, rs2, fo2, lk2, ld2⟩ := r2
  have st := sta_sto hR2 h hc
  have gv2 : ∀ y, y < P.2.2.1 36 (c + 1) → S2.2.2.2.1 39 y ≠ some 0 := fun y hy => by
    by_cases e : y < P.2.2.1 36 c
    · rw [e39 y e]; exact gv y e
    · rw [eO]; exact gn y (by omega) hy
  have of2 := sta_ofc (S := S2) hR2 h hc (fun y y1 y2 => (rs2.2.2 y y2).2 (gv2 y y2) |>.2)
  have n4 : ∀ b k, k ≠ 2 → k ≠ 5 → G2.2.1 b k = G.2.1 b k := fun b k k2 k5 => by rw [lq2.2.2.2.1 b k k5, hq1.2.1 b k k2]
  have m17 : ∀ a, a ≤ c → P.2.2.1 17 a ≤ P.2.2.1 17 c := fun a ha => mono_lt (n := P.1 15) (fun d hd => (h.p17 hd).1) ha (by omega)
  have m36 : ∀ a, a ≤ c → P.2.2.1 36 a ≤ P.2.2.1 36 c := fun a ha => mono_lt (n := P.1 15) (fun d hd => (h.p36 hd).1) ha (by omega)
  refine ⟨hR2.sq st.1, ?_, hL2.sq st.1, hk2, ?_, ?_, ?_, ?_, gv2, fun q i e => s1 q i (by rw [eO] at e; exact e), ?_⟩
  · exact ⟨fun p hp => by rw [st.2.2.1 _ 5 (by decide) (by decide) (by decide)]; exact wb2.1 p hp, fun y hy => by rw [st.2.2.1 _ 5 (by decide) (by decide) (by decide), st.2.2.1 _ 2 (by decide) (by decide) (by decide)]; exact wb2.2.1 y hy, fun j hj => by rw [st.2.2.1 _ 5 (by decide) (by decide) (by decide)]; exact wb2.2.2 j hj⟩
  · obtain ⟨r1, r2, r3⟩ := rs2
    exact ⟨fun q hq => by rw [st.2.1]; exact r1 q hq, fun q l i a b d e f => by rw [st.2.1]; exact r2 q l i a b d e f, fun y hy => by rw [st.2.1, st.2.2.1 _ 2 (by decide) (by decide) (by decide)]; exact r3 y hy⟩
  · refine ⟨fun p p1 p2 p3 => ?_, fun y y1 y2 => ⟨?_, ?_⟩⟩
    · rw [st.2.2.1 _ 5 (by decide) (by decide) (by decide), lq2.2.2.2.2.1 p p1 p2 p3, hq1.2.1 _ 5 (by decide)]; exact fr.1 p (by omega) p2 p3
    · rw [st.2.2.1 _ 5 (by decide) (by decide) (by decide), lq2.2.2.2.2.2 y y1 y2, hq1.2.1 _ 5 (by decide)]; exact (fr.2 y (by omega) y2).1
    · rw [st.2.1, lq2.2.1, hq1.2.2 y y1 y2]; exact (fr.2 y (by omega) y2).2
  · have ag : ∀ j, j < 2 → ∀ k, k ≠ 2 → k ≠ 5 → (sta ad P c G2).2.1 (ad 17 j) k = G.2.1 (ad 17 j) k := fun j hj k k2 k5 => by
      rw [(st.2.2.2 (ad 17 j) (hR.1.ne (show j < cno P 17 from hj) (show c < cno P 0 from hc) (fun r => absurd r.1 (by decide))) (fun p p1 p2 => hR.1.ne (show j < cno P 17 from hj) (show p < cno P 5 by show _ < P.1 18; omega) (fun r => absurd r.1 (by decide))) (fun y y1 y2 => hR.1.ne (show j < cno P 17 from hj) (show y < cno P 7 by show _ < P.1 37; omega) (fun r => absurd r.1 (by decide)))).2.1]
      exact n4 _ k k2 k5
    refine ⟨⟨by rw [ag 0 (by decide) 7 (by decide) (by decide)]; exact g4.1.1, by rw [ag 0 (by decide) 8 (by decide) (by decide)]; exact g4.1.2⟩, ⟨by rw [ag 1 (by decide) 7 (by decide) (by decide)]; exact g4.2.1.1, by rw [ag 1 (by decide) 8 (by decide) (by decide)]; exact g4.2.1.2⟩, fun j hj => ?_⟩
    rw [(st.2.2.2 (ad 22 j) (hR.1.ne (show j < cno P 22 from hj) (show c < cno P 0 from hc) (fun r => absurd r.1 (by decide))) (fun p p1 p2 => hR.1.ne (show j < cno P 22 from hj) (show p < cno P 5 by show _ < P.1 18; omega) (fun r => absurd r.1 (by decide))) (fun y y1 y2 => hR.1.ne (show j < cno P 22 from hj) (show y < cno P 7 by show _ < P.1 37; omega) (fun r => absurd r.1 (by decide)))).2.1, n4 _ 4 (by decide) (by decide)]
    exact g4.2.2 j hj
  · intro c' hc'
    by_cases e : c' = c
    · rw [e]; exact of2
    have hlt : c' < c := by omega
    have c7 := h.p17 (c := c') (by omega)
    have c6 := h.p36 (c := c') (by omega)
    have y7 := m17 (c' + 1) (by omega)
    have y6 := m36 (c' + 1) (by omega)
    obtain ⟨o1, o2, o3, o4⟩ := ofc c' hlt
    have gc := (st.2.2.2 (ad 0 c') (hR.1.ne (show c' < cno P 0 by show _ < P.1 15; omega) (show c < cno P 0 from hc) (by omega)) (fun p p1 p2 => hR.1.ne (show c' < cno P 0 by show _ < P.1 15; omega) (show p < cno P 5 by show _ < P.1 18; omega) (fun r => absurd r.1 (by decide))) (fun y y1 y2 => hR.1.ne (show c' < cno P 0 by show _ < P.1 15; omega) (show y < cno P 7 by show _ < P.1 37; omega) (fun r => absurd r.1 (by decide)))).2.1
    refine ⟨fun p p1 p2 => ?_, fun y y1 y2 => ?_, ?_, ?_⟩
    · rw [(st.2.2.2 (ad 5 p) (hR.1.ne (show p < cno P 5 by show _ < P.1 18; omega) (show c < cno P 0 from hc) (fun r => absurd r.1 (by decide))) (fun p' p1' p2' => hR.1.ne (show p < cno P 5 by show _ < P.1 18; omega) (show p' < cno P 5 by show _ < P.1 18; omega) (by omega)) (fun y y1 y2 => hR.1.ne (show p < cno P 5 by show _ < P.1 18; omega) (show y < cno P 7 by show _ < P.1 37; omega) (fun r => absurd r.1 (by decide)))).2.1, n4 _ 4 (by decide) (by decide)]
      exact o1 p p1 p2
    · rw [(st.2.2.2 (ad 7 y) (hR.1.ne (show y < cno P 7 by show _ < P.1 37; omega) (show c < cno P 0 from hc) (fun r => absurd r.1 (by decide))) (fun p' p1' p2' => hR.1.ne (show y < cno P 7 by show _ < P.1 37; omega) (show p' < cno P 5 by show _ < P.1 18; omega) (fun r => absurd r.1 (by decide))) (fun y' y1' y2' => hR.1.ne (show y < cno P 7 by show _ < P.1 37; omega) (show y' < cno P 7 by show _ < P.1 37; omega) (by omega))).2.1, n4 _ 4 (by decide) (by decide), o2 y y1 y2]
      exact isum_cg _ _ _ (fun j j1 j2 => (e39 j (by omega)).symm)
    · rw [gc, n4 _ 8 (by decide) (by decide), o3]
      exact isum_cg _ _ _ (fun j j1 j2 => (e39 j (by omega)).symm)
    · rw [gc, n4 _ 7 (by decide) (by decide)]; exact o4
  · intro c' hc'
    by_cases e : c' = c
    · rw [e]
      refine loc_of h hk2 hc fo2 ld2 (fun q hq => (rs2.1 q hq).2) (fun q q1 q2 => ?_)
      obtain ⟨i, a1, -⟩ := klps_n _ _ _ ks.2.2.2.2.1 hn q q1 (by omega)
      exact ⟨i, by rw [eO]; rw [(rz_48 49 200 0 S1).2.2] at a1; exact a1⟩
    · have hlt : c' < c := by omega
      have c6 := h.p36 (c := c') (by omega)
      have y6 := m36 (c' + 1) (by omega)
      have y23 : P.2.2.1 23 (c' + 1) ≤ P.2.2.1 23 c := mono_lt (n := P.1 15) (fun d hd => (h.p23 hd).1) (by omega) (by omega)
      exact (lo c' hlt).o (fun q hq => by rw [eO]; exact l44 q (by omega)) (fun y y1 y2 => e39 y (by omega)) c6.1
end STO
