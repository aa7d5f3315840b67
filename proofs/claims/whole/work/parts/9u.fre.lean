/-! A part's IN pins are freed -/
theorem icn_all {f : Nat → Bool} {a : Nat} : ∀ n, (∀ j, a ≤ j → j < a + n → f j = false) → icn f a n = n
  | 0, _ => rfl
  | n + 1, h => by
    show icn f a n + (if f (a + n) = true then 0 else 1) = n + 1
    rw [icn_all n (fun j x y => h j x (by omega)), if_neg (by rw [h (a + n) (by omega) (by omega)]; decide)]
theorem icn_io {f : Nat → Bool} {a : Nat} : ∀ n, (∀ p p', a ≤ p → p ≤ p' → p' < a + n → f p = true → f p' = true) → ∀ x, a ≤ x → x < a + n → (f x = false ↔ x - a < icn f a n)
  | 0, _, x, h1, h2 => by omega
  | n + 1, m, x, h1, h2 => by
    have il := icn_le f a n
    show f x = false ↔ x - a < icn f a n + (if f (a + n) = true then 0 else 1)
    by_cases e : f (a + n) = true
    · rw [if_pos e]
      by_cases z : x = a + n
      · rw [z, e]; exact ⟨fun q => (by cases q), fun q => (by omega)⟩
      · exact icn_io n (fun p p' x y w => m p p' x y (by omega)) x h1 (by omega)
    · have al : ∀ j, a ≤ j → j < a + (n + 1) → f j = false := fun j x y => Bool.eq_false_iff.mpr (fun q => e (m j (a + n) x (by omega) (by omega) q))
      rw [if_neg e, icn_all n (fun j x y => al j x (by omega))]
      exact ⟨fun _ => by omega, fun _ => al x h1 h2⟩
theorem frp_5 (xs : List Nat) : ∀ k i G, (∀ j, i ≤ j → j < i + k → G.1 (xs[j]?.getD 0) = 2) → sq G (frp xs k i G) ∧ (frp xs k i G).1 = G.1 ∧ (frp xs k i G).2.2 = G.2.2 ∧ (∀ b k', k' ≠ 5 → (frp xs k i G).2.1 b k' = G.2.1 b k') ∧ (∀ b, (∃ j, i ≤ j ∧ j < i + k ∧ xs[j]?.getD 0 = b) → (frp xs k i G).2.1 b 5 = 0) ∧ ∀ b, (∀ j, i ≤ j → j < i + k → xs[j]?.getD 0 ≠ b) → (frp xs k i G).2.1 b 5 = G.2.1 b 5
  | 0, i, G, _ => ⟨sq.rf G, rfl, rfl, fun _ _ _ => rfl, fun b ⟨j, h1, h2, _⟩ => by omega, fun _ _ => rfl⟩
  | k + 1, i, G, hk => by
    have h0 := hk i (Nat.le_refl _) (by omega)
    obtain ⟨r1, r2, r3, r4, r5, r6⟩ := frp_5 xs k (i + 1) (gN G (xs[i]?.getD 0) 5 0) (fun j a b => hk j (by omega) (by omega))
    show sq G (frp xs k (i + 1) (gN G (xs[i]?.getD 0) 5 0)) ∧ (frp xs k (i + 1) (gN G (xs[i]?.getD 0) 5 0)).1 = G.1 ∧ (frp xs k (i + 1) (gN G (xs[i]?.getD 0) 5 0)).2.2 = G.2.2 ∧ (∀ b k', k' ≠ 5 → (frp xs k (i + 1) (gN G (xs[i]?.getD 0) 5 0)).2.1 b k' = G.2.1 b k') ∧ (∀ b, (∃ j, i ≤ j ∧ j < i + (k + 1) ∧ xs[j]?.getD 0 = b) → (frp xs k (i + 1) (gN G (xs[i]?.getD 0) 5 0)).2.1 b 5 = 0) ∧ ∀ b, (∀ j, i ≤ j → j < i + (k + 1) → xs[j]?.getD 0 ≠ b) → (frp xs k (i + 1) (gN G (xs[i]?.getD 0) 5 0)).2.1 b 5 = G.2.1 b 5
    refine ⟨(sq_5 h0).tr r1, r2, r3, fun b k' e => (r4 b k' e).trans (up2_k _ _ _ _ e), fun b hb => ?_, fun b hb => ?_⟩
    · by_cases z : ∃ j, i + 1 ≤ j ∧ j < i + 1 + k ∧ xs[j]?.getD 0 = b
      · exact r5 b z
      · obtain ⟨j, j1, j2, j3⟩ := hb
        have ej : j = i := by
          by_cases e : j = i
          · exact e
          · exact absurd ⟨j, by omega, by omega, j3⟩ z
        subst ej
        rw [r6 b (fun j' a d e => z ⟨j', a, d, e⟩), ← j3]
        exact n5_s
    · rw [r6 b (fun j a d => hb j (by omega) (by omega))]
      exact n5_a (Ne.symm (hb i (Nat.le_refl _) (by omega)))
theorem rz_48 (a : Nat) : ∀ k i (S : PS), (∀ j, i ≤ j → j < i + k → (rz a k i S).2.2.1 a j = 0) ∧ (∀ k' j, ¬ (k' = a ∧ i ≤ j ∧ j < i + k) → (rz a k i S).2.2.1 k' j = S.2.2.1 k' j) ∧ (rz a k i S).2.2.2 = S.2.2.2
  | 0, i, S => ⟨fun j h1 h2 => by omega, fun _ _ _ => rfl, rfl⟩
  | k + 1, i, S => by
    obtain ⟨r1, r2, r3⟩ := rz_48 a k (i + 1) (ars S a i 0)
    show (∀ j, i ≤ j → j < i + (k + 1) → (rz a k (i + 1) (ars S a i 0)).2.2.1 a j = 0) ∧ (∀ k' j, ¬ (k' = a ∧ i ≤ j ∧ j < i + (k + 1)) → (rz a k (i + 1) (ars S a i 0)).2.2.1 k' j = S.2.2.1 k' j) ∧ (rz a k (i + 1) (ars S a i 0)).2.2.2 = S.2.2.2
    refine ⟨fun j h1 h2 => ?_, fun k' j hn => ?_, r3⟩
    · by_cases e : j = i
      · rw [r2 a j (by omega), e]; exact ars_s
      · exact r1 j (by omega) (by omega)
    · rw [r2 k' j (by omega)]
      exact ars_k (fun z => hn ⟨z.1, by omega, by omega⟩)
section FRE
variable {t0 qc qna qdf : Nat} {ft tv gw gp : Nat → Int32} {nv : Nat → Nat} {T : Nat} {fk : Nat → Int32} {pp nn : Nat → Nat} {fh fl : Nat → Int64} {G : PG} {ad : Nat → Nat → Nat} {tg : Nat → Nat × Nat} {P S : PS} {c q l i x y ld : Nat}
/-- how many IN pins a chip has, and that they stand first -/
def ipn (P : PS) (i : Nat) : Nat := if 1 < i then icn (P.2.2.2.2 19) (P.2.2.1 17 (i - 2)) (P.2.2.1 17 (i - 2 + 1) - P.2.2.1 17 (i - 2)) else if i = 0 then 2 else 1
theorem ipn_f (hR : RF t0 qc qna qdf ft tv fh fl pp nn G ad tg P) (h : KC ft tv gw gp nv T fk pp nn fh fl P) (hi : i < P.1 15 + 2) : G.2.1 (cad ad i) 6 = ipn P i ∧ ipn P i ≤ (pxs ad P i).length ∧ (∀ j, j < ipn P i → ∃ x, vpn P i x ∧ (pxs ad P i)[j]?.getD 0 = pad ad i x) ∧ ∀ x, vpn P i x → ∃ j, j < ipn P i ∧ (pxs ad P i)[j]?.getD 0 = pad ad i x := by
  unfold cad ipn pxs
  by_cases c1 : 1 < i
  · simp only [if_pos c1]
    have hc : i - 2 < P.1 15 := by omega
    have b := h.p17 hc
    obtain ⟨a1, -⟩ := hR.2.2.2.2.1 (i - 2) hc
    have il := icn_le (P.2.2.2.2 19) (P.2.2.1 17 (i - 2)) (P.2.2.1 17 (i - 2 + 1) - P.2.2.1 17 (i - 2))
    have io := icn_io (f := P.2.2.2.2 19) (a := P.2.2.1 17 (i - 2)) (P.2.2.1 17 (i - 2 + 1) - P.2.2.1 17 (i - 2)) (fun p p' x y z e => h.2.2.1.1.1.po (i - 2) p p' hc x y (by omega) (fun _ => by omega) e)
    have po : ∀ x, m_isOut (P.2.2.2.2 19) i x = P.2.2.2.2 19 x := fun x => if_pos c1
    have pa : ∀ x, pad ad i x = ad 5 x := fun x => if_pos c1
    refine ⟨a1.2.2.2.2.2.2.2, by rw [rga_len]; exact il, fun j hj => ?_, fun x hx => ?_⟩
    · refine ⟨P.2.2.1 17 (i - 2) + j, ⟨by rw [if_pos c1]; omega, ?_⟩, by rw [rga_get (by omega), pa]; rfl⟩
      rw [po]; exact (io _ (by omega) (by omega)).mpr (by omega)
    · have hx1 := hx.1
      rw [if_pos c1] at hx1
      have := (io x hx1.1 (by omega)).mp (by rw [← po]; exact hx.2)
      exact ⟨x - P.2.2.1 17 (i - 2), this, by rw [rga_get (by omega), pa, show P.2.2.1 17 (i - 2) + (x - P.2.2.1 17 (i - 2)) = x by omega]; rfl⟩
  · simp only [if_neg c1]
    obtain ⟨g1, g2, -⟩ := hR.2.2.1
    rcases (show i = 0 ∨ i = 1 by omega) with rfl | rfl
    · refine ⟨g1.2.2.2.2.2.2.2, (show 2 ≤ 3 by decide), fun j hj => ?_, fun x hx => ?_⟩
      · have hj : j < 2 := hj
        refine ⟨j, ⟨by show j < 3; omega, ?_⟩, ?_⟩
        · show decide (j = 2) = false
          exact decide_eq_false (by omega)
        · rcases (show j = 0 ∨ j = 1 by omega) with rfl | rfl <;> rfl
      · have h1 : x < 3 := hx.1
        have h2 : decide (x = 2) = false := hx.2
        have h3 := of_decide_eq_false h2
        refine ⟨x, (show x < 2 by omega), ?_⟩
        rcases (show x = 0 ∨ x = 1 by omega) with rfl | rfl <;> rfl
    · refine ⟨g2.2.2.2.2.2.2.2, (show 1 ≤ 2 by decide), fun j hj => ?_, fun x hx => ?_⟩
      · have hj : j < 1 := hj
        refine ⟨j, ⟨by show j < 2; omega, ?_⟩, ?_⟩
        · show decide (j = 1) = false
          exact decide_eq_false (by omega)
        · rcases (show j = 0 by omega) with rfl; rfl
      · have h1 : x < 2 := hx.1
        have h2 : decide (x = 1) = false := hx.2
        have h3 := of_decide_eq_false h2
        refine ⟨x, (show x < 1 by omega), ?_⟩
        rcases (show x = 0 by omega) with rfl; rfl
end FRE
section FRL
variable {t0 qc qna qdf : Nat} {ft tv gw gp : Nat → Int32} {nv : Nat → Nat} {T : Nat} {fk : Nat → Int32} {pp nn : Nat → Nat} {fh fl : Nat → Int64} {G G' : PG} {ad : Nat → Nat → Nat} {tg : Nat → Nat × Nat} {P S : PS} {c q l i i' x y ld : Nat}
def LKo (ft gp : Nat → Int32) (P : PS) (ad : Nat → Nat → Nat) (c : Nat) (G : PG) (S : PS) (ld : Nat) : Prop :=
  (∀ p, P.2.2.1 17 c ≤ p → p < P.2.2.1 17 (c + 1) → P.2.2.2.2 19 p = true → G.2.1 (ad 5 p) 5 = S.2.2.1 49 p) ∧
  (∀ y, P.2.2.1 36 c ≤ y → y < P.2.2.1 36 (c + 1) → (G.2.1 (ad 7 y) 5 ≠ 0 ↔ S.2.2.2.2 40 y = true)) ∧
  ∀ q l i x y, l < ld → ol ft gp P S c q l i x y → S.2.2.2.2 40 y = true
theorem LK.o (lk : LK ft gp P ad c G S i ld) : LKo ft gp P ad c G S ld := ⟨lk.1, lk.2.1, lk.2.2.2⟩
/-- a part begins: its chip's IN pins are free -/
theorem fre_lk (hR : RF t0 qc qna qdf ft tv fh fl pp nn G ad tg P) (h : KC ft tv gw gp nv T fk pp nn fh fl P) (hc : c < P.1 15) (hi : i < P.1 15 + 2) (wb : WB G ad P) (lk : LKo ft gp P ad c G S ld) (hG : G' = frp (pxs ad P i) (min (ipn P i) (pxs ad P i).length) 0 G) : LK ft gp P ad c G' (rz 48 200 0 S) i ld ∧ lq P ad c G G' ∧ WB G' ad P := by
  obtain ⟨f1, f2, f3, f4⟩ := ipn_f hR h hi
  rw [Nat.min_eq_left f2] at hG
  have b17 := h.p17 hc
  have b36 := h.p36 hc
  obtain ⟨r1, r2, r3, r4, r5, r6⟩ := frp_5 (pxs ad P i) (ipn P i) 0 G (fun j _ hj => by
    obtain ⟨x, vx, ex⟩ := f3 j (by omega)
    rw [ex]; exact (pad_ne hR h hi vx).1)
  rw [← hG] at r1 r2 r3 r4 r5 r6
  obtain ⟨z1, z2, z3⟩ := rz_48 48 200 0 S
  have s5 : ∀ p, p < P.1 18 → P.2.2.2.2 19 p = true → G'.2.1 (ad 5 p) 5 = G.2.1 (ad 5 p) 5 := fun p hp ho => r6 _ (fun j _ hj e => by
    obtain ⟨x, vx, ex⟩ := f3 j (by omega)
    exact (pad_ne hR h hi vx).2.1 p hp ho (e.symm.trans ex))
  have s7 : ∀ y, y < P.1 37 → G'.2.1 (ad 7 y) 5 = G.2.1 (ad 7 y) 5 := fun y hy => r6 _ (fun j _ hj e => by
    obtain ⟨x, vx, ex⟩ := f3 j (by omega)
    exact (pad_ne hR h hi vx).2.2.1 y hy (e.symm.trans ex))
  obtain ⟨l1, l2, l4⟩ := lk
  have cs := h.2.2.1.2.2.2.1
  refine ⟨⟨fun p a d e => ?_, fun y a d => ?_, fun x vx => ?_, fun q l i x y a o => ?_⟩, ⟨r1, by rw [r3], by rw [r3], r4, fun p _ a e => s5 p a e, fun y _ a => s7 y a⟩, ?_⟩
  · rw [s5 p (by omega) e, z2 49 p (by omega)]; exact l1 p a d e
  · rw [s7 y (by omega), z3]; exact l2 y a d
  · obtain ⟨j, hj, ej⟩ := f4 x vx
    rw [r5 _ ⟨j, Nat.zero_le _, by omega, ej⟩]
    have hl := vpn_lt h hi vx
    have c1 := cs.1
    have c2 := cs.2.1
    have hx : x < 200 := by
      split at hl
      · omega
      · split at hl <;> omega
    exact (z1 x (Nat.zero_le _) (by omega)).symm
  · rw [z3]; exact l4 q l i x y a ((ol_44 (by rw [z3])).mp o)
  · have g : ∀ b, G.2.1 b 5 < 65536 → G'.2.1 b 5 < 65536 := fun b hb => by
      by_cases e : ∃ j, 0 ≤ j ∧ j < 0 + ipn P i ∧ (pxs ad P i)[j]?.getD 0 = b
      · rw [r5 b e]; decide
      · rw [r6 b (fun j a d z => e ⟨j, a, d, z⟩)]; exact hb
    exact ⟨fun p hp => g _ (wb.1 p hp), fun y hy => ⟨g _ (wb.2.1 y hy).1, by rw [r4 _ 2 (by decide)]; exact (wb.2.1 y hy).2⟩, fun j hj => g _ (wb.2.2 j hj)⟩
/-- before any link of the chip is looked up -/
theorem fo_0 (h : KC ft tv gw gp nv T fk pp nn fh fl P) (hc : c < P.1 15) (h39 : ∀ y, P.2.2.1 36 c ≤ y → y < P.2.2.1 36 (c + 1) → S.2.2.2.1 39 y = some 0) : FO ft gp P S c (P.2.2.1 26 (P.2.2.1 23 c)) := fun y y1 y2 => Or.inl ⟨h39 y y1 y2, fun q l i x hl o => by
  obtain ⟨o1, -⟩ := h.inl o.1
  have m := (h.2.2.1.1.2.2.1.fm (P.2.2.1 23 c) q o.1.2.1.1 o1).1
  have := o.1.2.2.1
  omega⟩
theorem fi0_39 : ∀ k j (S : PS), (∀ y, j ≤ y → y < j + k → (fi_0 k j S).2.2.2.1 39 y = some 0 ∧ (fi_0 k j S).2.2.2.2 40 y = false) ∧ (∀ y, ¬ (j ≤ y ∧ y < j + k) → (fi_0 k j S).2.2.2.1 39 y = S.2.2.2.1 39 y ∧ (fi_0 k j S).2.2.2.2 40 y = S.2.2.2.2 40 y) ∧ (fi_0 k j S).2.2.2.1 44 = S.2.2.2.1 44
  | 0, j, S => ⟨fun y h1 h2 => by omega, fun _ _ => ⟨rfl, rfl⟩, rfl⟩
  | k + 1, j, S => by
    obtain ⟨r1, r2, r3⟩ := fi0_39 k (j + 1) (abs_ (aos S 39 j (some 0)) 40 j false)
    have e : fi_0 (k + 1) j S = fi_0 k (j + 1) (abs_ (aos S 39 j (some 0)) 40 j false) := rfl
    rw [e]
    refine ⟨fun y h1 h2 => ?_, fun y hn => ?_, r3.trans (funext (fun w => aos_k (S := S) (k := 39) (k' := 44) (j := j) (j' := w) (v := some 0) (fun z => absurd z.1 (by decide))))⟩
    · by_cases z : y = j
      · obtain ⟨a, b⟩ := r2 y (by omega)
        rw [a, b, z]
        exact ⟨aos_s (S := S) (k := 39) (j := j) (v := some 0), abs_s (S := aos S 39 j (some 0)) (k := 40) (j := j) (w := false)⟩
      · exact r1 y (by omega) (by omega)
    · obtain ⟨a, b⟩ := r2 y (by omega)
      rw [a, b]
      exact ⟨aos_k (S := S) (k := 39) (k' := 39) (j := j) (j' := y) (v := some 0) (fun z => hn ⟨by omega, by omega⟩), abs_k (S := aos S 39 j (some 0)) (k := 40) (k' := 40) (j := j) (j' := y) (w := false) (fun z => hn ⟨by omega, by omega⟩)⟩
end FRL
