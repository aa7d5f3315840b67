section REP3
variable {t0 qc qna qdf m : Nat} {ft tv : Nat → Int32} {nv : Nat → Nat} {fh fl : Nat → Int64} {pp nn : Nat → Nat} {G G' : PG} {ad : Nat → Nat → Nat} {tg : Nat → Nat × Nat} {P X : PS}
/-- a chip was begun -/
theorem RX.chip (h : RX t0 qc qna qdf ft tv fh fl pp nn m G ad tg P) (hsc : SIc nv P) (hsq : SIq P) (hsi : SIi ft P) (x : chs P X) (hm : m ≤ P.1 15) {cc nm l1 l2 l3 : Nat} (c0 : frh G cc) (n0 : frh G nm) (k1 : frh G l1) (k2 : frh G l2) (k3 : frh G l3) (iN : isT fh fl pp G' nm (P.1 12)) (iC : isC G' cc nm 0 (P.1 15) l1 l2 l3 0) (hne : l1 ≠ l2 ∧ l1 ≠ l3 ∧ l2 ≠ l3) (z1 : LSx t0 G' l1 []) (z2 : LSx t0 G' l2 []) (z3 : LSx t0 G' l3 []) (hl : LSx t0 G' qc (rga (ad 0) 0 (P.1 15) ++ [cc])) (hfa : LF G G' qc) :
    ∃ ad' tg', RX t0 qc qna qdf ft tv fh fl pp nn m G' ad' tg' X ∧ ad' 0 (X.1 15 - 1) = cc := by
  obtain ⟨hT, hq, hG, hC, rc, rp, ri, rq, rl, n1, n2, n3⟩ := h
  have kl : G.1 qc = 7 := by rw [← hq.1]; exact (hT 24 0 (show 0 < 1 by decide)).1
  have hf : LFs G G' (fun b => b = qc) := LFs_LF hfa kl hl.k.1
  have hS : ∀ b, (fun b => b = qc) b → G.1 b = 6 ∨ G.1 b = 7 := fun b q => Or.inr (by rw [show b = qc from q]; exact kl)
  have h8 : ∀ b, 8 ≤ G.1 b → ¬ (fun b => b = qc) b := fun b a q => by have := hS b q; omega
  have nS : ∀ k j, j < cno P k → k ≠ 24 → ¬ (ad k j = qc) := fun k j a b q => hT.ne a (show 0 < 1 by decide) (fun e => b e.1) (by rw [hq.1]; exact q)
  generalize hA : up2 (up2 (up2 (up2 (up2 ad 0 (P.1 15) cc) 1 (P.1 15) nm) 2 (P.1 15) l1) 3 (P.1 15) l2) 4 (P.1 15) l3 = ad' at *
  have ak : ∀ k, 5 ≤ k → ad' k = ad k := fun k a => by rw [← hA, up2_r _ _ _ (by omega), up2_r _ _ _ (by omega), up2_r _ _ _ (by omega), up2_r _ _ _ (by omega), up2_r _ _ _ (by omega)]
  have aj : ∀ k j, j ≠ P.1 15 → ad' k j = ad k j := fun k j a => by rw [← hA, up2_k _ _ _ _ a, up2_k _ _ _ _ a, up2_k _ _ _ _ a, up2_k _ _ _ _ a, up2_k _ _ _ _ a]
  have v0 : ad' 0 (P.1 15) = cc := by rw [← hA]; simp [up2]
  have v1 : ad' 1 (P.1 15) = nm := by rw [← hA]; simp [up2]
  have v2 : ad' 2 (P.1 15) = l1 := by rw [← hA]; simp [up2]
  have v3 : ad' 3 (P.1 15) = l2 := by rw [← hA]; simp [up2]
  have v4 : ad' 4 (P.1 15) = l3 := by rw [← hA]; simp [up2]
  have row : ∀ k, k ≠ 16 ∧ k ≠ 17 ∧ k ≠ 23 ∧ k ≠ 36 → X.2.2.1 k = P.2.2.1 k := fun k a => by funext j; exact x.fr k j (Or.inl a)
  have rj : ∀ k j, j ≠ P.1 15 → X.2.2.1 k j = P.2.2.1 k j := fun k j a => x.fr k j (Or.inr a)
  have pX : ∀ c, c < P.1 15 → pe X c = pe P c := fun c hc => by
    unfold pe; rw [x.e15, if_pos (by omega)]
    by_cases e : c + 1 < P.1 15
    · rw [if_pos e, rj 17 _ (by omega)]
    · rw [if_neg e, show c + 1 = P.1 15 by omega, x.v17]
  have iX : ∀ c, c < P.1 15 → ie X c = ie P c := fun c hc => by
    unfold ie; rw [x.e15, if_pos (by omega)]
    by_cases e : c + 1 < P.1 15
    · rw [if_pos e, rj 36 _ (by omega)]
    · rw [if_neg e, show c + 1 = P.1 15 by omega, x.v36]
  have qX : ∀ c, c < P.1 15 → qe X c = qe P c := fun c hc => by
    unfold qe; rw [x.e15, if_pos (by omega)]
    by_cases e : c + 1 < P.1 15
    · rw [if_pos e, rj 23 _ (by omega)]
    · rw [if_neg e, show c + 1 = P.1 15 by omega, x.v23]
  have lX : ∀ q, le_ X q = le_ P q := fun q => by unfold le_; rw [x.e24, x.e27, row 26 (by decide)]
  have b19 : X.2.2.2.2 = P.2.2.2.2 := by rw [x.o]
  have b22 : X.2.2.2.1 = P.2.2.2.1 := by rw [x.o]
  have kne : ∀ {a b ka kb : Nat}, G'.1 a = ka → G'.1 b = kb → ka ≠ kb → a ≠ b := fun ha hb hn e => hn (by rw [← ha, ← hb, e])
  have wold : ∀ l, l < P.1 27 → wro ft ad' X (ad' 32 l) l = wro ft ad P (ad 32 l) l := by
    intro l hl'
    have b1 : ad 32 l < P.1 15 := Nat.lt_of_lt_of_le (n1 l hl') hm
    rw [ak 32 (by decide)]
    exact wro_eq (row 7 (by decide)) (row 8 (by decide)) (row 9 (by decide)) (by rw [row 32 (by decide)]) (pX _ b1) (iX _ b1) (rj 17 _ (by omega)) (rj 36 _ (by omega)) (fun j _ => by rw [row 20 (by decide)]) (fun j _ => by rw [row 38 (by decide)]) (fun j _ => by rw [ak 5 (by decide)]) (fun j _ => by rw [ak 7 (by decide)])
  refine ⟨ad', va_up (va_up (va_up (va_up (va_up tg cc (0, P.1 15)) nm (1, P.1 15)) l1 (2, P.1 15)) l2 (3, P.1 15)) l3 (4, P.1 15), ⟨?_, ?_, ?_, ?_, ?_, ?_, ?_, ?_, ?_, ?_⟩, ?_⟩
  · have t1 := RT.put (k0 := 0) (j0 := P.1 15) (hT.fr hf) (hT.fre c0) iC.1 rfl
    have t2 := RT.put (k0 := 1) (j0 := P.1 15) t1 (put_ne (hT.fre n0) (kne iC.1 iN.1 (by decide)) rfl) iN.1 rfl
    have t3 := RT.put (k0 := 2) (j0 := P.1 15) t2 (put_ne (put_ne (hT.fre k1) (kne iC.1 z1.k.1 (by decide)) rfl) (kne iN.1 z1.k.1 (by decide)) rfl) z1.k.1 rfl
    have t4 := RT.put (k0 := 3) (j0 := P.1 15) t3 (put_ne (put_ne (put_ne (hT.fre k2) (kne iC.1 z2.k.1 (by decide)) rfl) (kne iN.1 z2.k.1 (by decide)) rfl) hne.1 rfl) z2.k.1 rfl
    have t5 := RT.put (k0 := 4) (j0 := P.1 15) t4 (put_ne (put_ne (put_ne (put_ne (hT.fre k3) (kne iC.1 z3.k.1 (by decide)) rfl) (kne iN.1 z3.k.1 (by decide)) rfl) hne.2.1 rfl) hne.2.2 rfl) z3.k.1 rfl
    rw [hA] at t5
    refine t5.sub (fun k => ?_)
    rw [cno_k X, cno_k P, x.e15, x.e18, x.e24, x.e27, x.e37]
    by_cases e : k < 5
    · rcases (show k = 0 ∨ k = 1 ∨ k = 2 ∨ k = 3 ∨ k = 4 by omega) with r | r | r | r | r <;> subst r <;> simp
    · rw [if_neg e, if_neg (show k ≠ 4 by omega), if_neg (show k ≠ 3 by omega), if_neg (show k ≠ 2 by omega), if_neg (show k ≠ 1 by omega), if_neg (show k ≠ 0 by omega), if_neg e]
      exact Nat.le_refl _
  · rw [ak 24 (by decide), ak 17 (by decide)]; exact hq
  · have : GT t0 G' ad := hG.fr (hT.sub (cnz_le P)) hf h8 (fun k j a b => nS k j (Nat.lt_of_lt_of_le b (cnz_le P k)) a)
    unfold GT at this ⊢
    rw [ak 17 (by decide), ak 18 (by decide), ak 19 (by decide), ak 20 (by decide), ak 21 (by decide), ak 22 (by decide), ak 23 (by decide)]
    exact this
  · rw [ak 24 (by decide), hq.1, x.e15, rga_snoc (Nat.zero_le _), v0, rga_eq (g := ad 0) (fun j _ b => aj 0 j (by omega))]
    exact hl
  · intro c' hc'
    rw [x.e15] at hc'
    by_cases e : c' = P.1 15
    · subst e
      unfold RC_
      rw [v0, v1, v2, v3, v4, x.v16, x.v17, x.v23, x.v36, show pe X (P.1 15) = P.1 18 by unfold pe; rw [x.e15, if_neg (by omega), x.e18], show ie X (P.1 15) = P.1 37 by unfold ie; rw [x.e15, if_neg (by omega), x.e37], show qe X (P.1 15) = P.1 24 by unfold qe; rw [x.e15, if_neg (by omega), x.e24], rga_nil (Nat.le_refl _), rga_nil (Nat.le_refl _), rga_nil (Nat.le_refl _), Nat.sub_self]
      exact ⟨iC, iN, z1, z2, z3⟩
    · have hc2 : c' < P.1 15 := by omega
      exact RC_.keep (rc c' hc2) hf hS ⟨nS 0 c' hc2 (by decide), nS 2 c' hc2 (by decide), nS 3 c' hc2 (by decide), nS 4 c' hc2 (by decide)⟩ (fun k _ => rj k c' e) ⟨pX c' hc2, iX c' hc2, qX c' hc2⟩ (fun j _ => by rw [b19]) (fun k _ => aj k c' e) (fun j _ => by rw [ak 5 (by decide)]) (fun j _ => by rw [ak 7 (by decide)]) (fun j _ => by rw [ak 9 (by decide)])
  · intro p hp
    rw [x.e18] at hp
    exact RP_.keep (rp p hp) hf hS (by rw [b19]) (by rw [row 20 (by decide)]) (by rw [row 21 (by decide)]) (by rw [b22]) (by rw [ak 5 (by decide)]) (by rw [ak 6 (by decide)])
  · intro i hi
    rw [x.e37] at hi
    exact RI_.keep (ri i hi) hf hS (by rw [row 38 (by decide)]) (by rw [ak 7 (by decide)]) (by rw [ak 8 (by decide)])
  · intro q hq'
    rw [x.e24] at hq'
    refine RQ_.keep (rq q hq') hf hS (by rw [row 25 (by decide)]) (by rw [ak 9 (by decide)]) (by rw [ak 10 (by decide)]) (by rw [ak 11 (by decide)]) ?_
    rw [ak 12 (by decide), lX, row 26 (by decide)]
    exact LSx_fs (rq q hq').2.2 hf h8 (nS 11 q hq' (by decide))
  · intro l hl'
    rw [x.e27] at hl'
    exact RL_.keep (rl l hl') hf hS (fun k hk => by rw [row k (by omega)]) (fun k _ => by rw [b22]) (row 7 (by decide)) (fun k a _ => by rw [ak k (by omega)]) (wold l hl')
  · unfold RN_
    rw [x.e27, x.e24, x.e15, ak 32 (by decide), ak 33 (by decide), row 26 (by decide)]
    refine ⟨n1, fun q l a b c => n2 q l a b (by rw [← lX]; exact c), fun c q a b d => ?_, fun i hi => ?_⟩
    case refine_2 =>
      obtain ⟨l, a, b, d, e, f⟩ := n3.2 i (by rw [← x.e37]; exact hi)
      have b1 : ad 32 l < P.1 15 := Nat.lt_of_lt_of_le (n1 l a) hm
      have w9 := wold l a
      rw [ak 32 (by decide)] at w9
      exact ⟨l, a, by rw [row 38 (by decide), row 32 (by decide)]; exact b, by rw [rj 36 _ (by omega)]; exact d, by rw [iX _ b1]; exact e, by rw [w9, ak 7 (by decide)]; exact f⟩
    by_cases e : c = P.1 15
    · subst e
      rw [x.v23] at b
      unfold qe at d; rw [x.e15, if_neg (by omega), x.e24] at d
      omega
    · exact n3.1 c q (by omega) (by rw [← rj 23 c e]; exact b) (by rw [← qX c (by omega)]; exact d)
  · rw [x.e15, Nat.add_sub_cancel, v0]
/-- a part was begun -/
theorem RX.part (h : RX t0 qc qna qdf ft tv fh fl pp nn m G ad tg P) (hsq : SIq P) (hsl : SIl tv P) (x : pas P X) (h15 : 1 ≤ P.1 15) {pt nm ls : Nat} (p0 : frh G pt) (n0 : frh G nm) (k0 : frh G ls) (iN : isT fh fl pp G' nm (P.1 12)) (iQ : isQ G' pt nm ls none) (z1 : LSx t0 G' ls []) (hl : LSx t0 G' (ad 4 (P.1 15 - 1)) (rga (ad 9) (P.2.2.1 23 (P.1 15 - 1)) (P.1 24) ++ [pt])) (hf : LFs G G' (fun b => b = ad 4 (P.1 15 - 1))) :
    ∃ ad' tg', RX t0 qc qna qdf ft tv fh fl pp nn m G' ad' tg' X ∧ ad' 0 (X.1 15 - 1) = ad 0 (P.1 15 - 1) ∧ ad' 9 (X.1 24 - 1) = pt := by
  obtain ⟨hT, hq, hG, hC, rc, rp, ri, rq, rl, n1, n2, n3⟩ := h
  generalize hcc : P.1 15 - 1 = c at *
  have hc : c < P.1 15 := by omega
  have kl : G.1 (ad 4 c) = 7 := (hT 4 c hc).1
  have hS : ∀ b, (fun b => b = ad 4 c) b → G.1 b = 6 ∨ G.1 b = 7 := fun b q => Or.inr (by rw [show b = ad 4 c from q]; exact kl)
  have h8 : ∀ b, 8 ≤ G.1 b → ¬ (fun b => b = ad 4 c) b := fun b a q => by have := hS b q; omega
  have nS : ∀ k j, j < cno P k → ¬ (k = 4 ∧ j = c) → ¬ (ad k j = ad 4 c) := fun k j a b q => hT.ne a (show c < cno P 4 from hc) b q
  generalize hA : up2 (up2 (up2 (up2 ad 9 (P.1 24) pt) 10 (P.1 24) nm) 11 (P.1 24) ls) 33 (P.1 24) c = ad' at *
  have ak : ∀ k, k ≠ 9 → k ≠ 10 → k ≠ 11 → k ≠ 33 → ad' k = ad k := fun k a b c d => by rw [← hA, up2_r _ _ _ d, up2_r _ _ _ c, up2_r _ _ _ b, up2_r _ _ _ a]
  have aj : ∀ k j, j ≠ P.1 24 → ad' k j = ad k j := fun k j a => by rw [← hA, up2_k _ _ _ _ a, up2_k _ _ _ _ a, up2_k _ _ _ _ a, up2_k _ _ _ _ a]
  have v9 : ad' 9 (P.1 24) = pt := by rw [← hA]; simp [up2]
  have v10 : ad' 10 (P.1 24) = nm := by rw [← hA]; simp [up2]
  have v11 : ad' 11 (P.1 24) = ls := by rw [← hA]; simp [up2]
  have v33 : ad' 33 (P.1 24) = c := by rw [← hA]; simp [up2]
  have row : ∀ k, k ≠ 25 ∧ k ≠ 26 → X.2.2.1 k = P.2.2.1 k := fun k a => by funext j; exact x.fr k j (Or.inl a)
  have rj : ∀ k j, j ≠ P.1 24 → X.2.2.1 k j = P.2.2.1 k j := fun k j a => x.fr k j (Or.inr a)
  have pX : ∀ c, pe X c = pe P c := fun c' => by unfold pe; rw [x.e15, x.e18, row 17 (by decide)]
  have iX : ∀ c, ie X c = ie P c := fun c' => by unfold ie; rw [x.e15, x.e37, row 36 (by decide)]
  have qX : ∀ c', qe X c' = if c' + 1 < P.1 15 then P.2.2.1 23 (c' + 1) else P.1 24 + 1 := fun c' => by unfold qe; rw [x.e15, x.e24, row 23 (by decide)]
  have lX : ∀ q, q < P.1 24 → le_ X q = le_ P q := fun q hq => by
    unfold le_; rw [x.e24, if_pos (by omega)]
    by_cases e : q + 1 < P.1 24
    · rw [if_pos e, rj 26 _ (by omega)]
    · rw [if_neg e, show q + 1 = P.1 24 by omega, x.v26]
  have lN : le_ X (P.1 24) = P.1 27 := by unfold le_; rw [x.e24, if_neg (by omega), x.e27]
  have qc_ : qe P c = P.1 24 := by unfold qe; rw [if_neg (by omega)]
  have b19 : X.2.2.2.2 = P.2.2.2.2 := by rw [x.o]
  have b22 : X.2.2.2.1 = P.2.2.2.1 := by rw [x.o]
  have kne : ∀ {a b ka kb : Nat}, G'.1 a = ka → G'.1 b = kb → ka ≠ kb → a ≠ b := fun ha hb hn e => hn (by rw [← ha, ← hb, e])
  have wold : ∀ l, l < P.1 27 → wro ft ad' X (ad' 32 l) l = wro ft ad P (ad 32 l) l := by
    intro l hl'
    rw [ak 32 (by decide) (by decide) (by decide) (by decide)]
    exact wro_eq (row 7 (by decide)) (row 8 (by decide)) (row 9 (by decide)) (by rw [row 32 (by decide)]) (pX _) (iX _) (by rw [row 17 (by decide)]) (by rw [row 36 (by decide)]) (fun j _ => by rw [row 20 (by decide)]) (fun j _ => by rw [row 38 (by decide)]) (fun j _ => by rw [ak 5 (by decide) (by decide) (by decide) (by decide)]) (fun j _ => by rw [ak 7 (by decide) (by decide) (by decide) (by decide)])
  refine ⟨ad', va_up (va_up (va_up tg pt (9, P.1 24)) nm (10, P.1 24)) ls (11, P.1 24), ⟨?_, ?_, ?_, ?_, ?_, ?_, ?_, ?_, ?_, ?_⟩, ?_, ?_⟩
  · have t1 := RT.put (k0 := 9) (j0 := P.1 24) (hT.fr hf) (hT.fre p0) iQ.1 rfl
    have t2 := RT.put (k0 := 10) (j0 := P.1 24) t1 (put_ne (hT.fre n0) (kne iQ.1 iN.1 (by decide)) rfl) iN.1 rfl
    have t3 := RT.put (k0 := 11) (j0 := P.1 24) t2 (put_ne (put_ne (hT.fre k0) (kne iQ.1 z1.k.1 (by decide)) rfl) (kne iN.1 z1.k.1 (by decide)) rfl) z1.k.1 rfl
    intro k j hj
    have hj2 : j < (if k = 11 then (fun k => if k = 10 then (fun k => if k = 9 then cno P k + 1 else cno P k) k + 1 else (fun k => if k = 9 then cno P k + 1 else cno P k) k) k + 1 else (fun k => if k = 10 then (fun k => if k = 9 then cno P k + 1 else cno P k) k + 1 else (fun k => if k = 9 then cno P k + 1 else cno P k) k) k) := by
      refine Nat.lt_of_lt_of_le hj ?_
      dsimp only
      rw [cno_k X, cno_k P, x.e15, x.e18, x.e24, x.e27, x.e37]
      by_cases e : k = 9 ∨ k = 10 ∨ k = 11
      · rcases e with r | r | r <;> subst r <;> simp
      · rw [if_neg (show k ≠ 11 by omega), if_neg (show k ≠ 10 by omega), if_neg (show k ≠ 9 by omega)]
        repeat' split
        all_goals first | exact Nat.le_refl _ | omega
    have h33 : k ≠ 33 := fun e => by rw [e] at hj; exact absurd hj (Nat.not_lt_zero _)
    have e1 : ad' k j = up2 (up2 (up2 ad 9 (P.1 24) pt) 10 (P.1 24) nm) 11 (P.1 24) ls k j := by rw [← hA, up2_r _ _ _ h33]
    rw [e1]
    exact t3 k j hj2
  · rw [ak 24 (by decide) (by decide) (by decide) (by decide), ak 17 (by decide) (by decide) (by decide) (by decide)]; exact hq
  · have : GT t0 G' ad := hG.fr (hT.sub (cnz_le P)) hf h8 (fun k j a b => nS k j (Nat.lt_of_lt_of_le b (cnz_le P k)) (fun q => by rw [q.1] at b; exact absurd b (Nat.not_lt_zero _)))
    unfold GT at this ⊢
    rw [ak 17 (by decide) (by decide) (by decide) (by decide), ak 18 (by decide) (by decide) (by decide) (by decide), ak 19 (by decide) (by decide) (by decide) (by decide), ak 20 (by decide) (by decide) (by decide) (by decide), ak 21 (by decide) (by decide) (by decide) (by decide), ak 22 (by decide) (by decide) (by decide) (by decide), ak 23 (by decide) (by decide) (by decide) (by decide)]
    exact this
  · rw [ak 24 (by decide) (by decide) (by decide) (by decide), x.e15, ak 0 (by decide) (by decide) (by decide) (by decide)]
    exact LSx_fs hC hf h8 (nS 24 0 (show 0 < 1 by decide) (by omega))
  · intro c' hc'
    rw [x.e15] at hc'
    have ql := qe_le hsq hc'
    by_cases e : c' = c
    · subst e
      obtain ⟨r1, r2, r3, r4, r5⟩ := rc c' hc'
      have p1 : P.2.2.1 23 c' ≤ P.1 24 := (hsq.fm c' c' (Nat.le_refl _) hc').2
      unfold RC_
      rw [pX, iX, qX, if_neg (by omega), row 16 (by decide), row 17 (by decide), row 23 (by decide), row 36 (by decide), ak 0 (by decide) (by decide) (by decide) (by decide), ak 1 (by decide) (by decide) (by decide) (by decide), ak 2 (by decide) (by decide) (by decide) (by decide), ak 3 (by decide) (by decide) (by decide) (by decide), ak 4 (by decide) (by decide) (by decide) (by decide), ak 5 (by decide) (by decide) (by decide) (by decide), ak 7 (by decide) (by decide) (by decide) (by decide), b19, rga_snoc p1, v9, rga_eq (g := ad 9) (fun j _ b => aj 9 j (by omega))]
      exact ⟨r1.keep (hf.gs (by rw [r1.1]; decide) (by rw [r1.1]; decide) (nS 0 c' hc' (by omega))), r2.keep (hf.gs (by rw [r2.1]; decide) (by rw [r2.1]; decide) (fun q => by have := hS _ q; rw [r2.1] at this; omega)), LSx_fs r3 hf h8 (nS 2 c' hc' (by omega)), LSx_fs r4 hf h8 (nS 3 c' hc' (by omega)), hl⟩
    · have e1 : c' + 1 < P.1 15 := by omega
      have eq1 : qe X c' = qe P c' := by rw [qX, if_pos e1]; unfold qe; rw [if_pos e1]
      exact RC_.keep (rc c' hc') hf hS ⟨nS 0 c' hc' (by omega), nS 2 c' hc' (by omega), nS 3 c' hc' (by omega), nS 4 c' hc' (by omega)⟩ (fun k hk => by rw [row k (by omega)]) ⟨pX c', iX c', eq1⟩ (fun j _ => by rw [b19]) (fun k hk => by rw [ak k (by omega) (by omega) (by omega) (by omega)]) (fun j _ => by rw [ak 5 (by decide) (by decide) (by decide) (by decide)]) (fun j _ => by rw [ak 7 (by decide) (by decide) (by decide) (by decide)]) (fun j hj => aj 9 j (by omega))
  · intro p hp
    rw [x.e18] at hp
    exact RP_.keep (rp p hp) hf hS (by rw [b19]) (by rw [row 20 (by decide)]) (by rw [row 21 (by decide)]) (by rw [b22]) (by rw [ak 5 (by decide) (by decide) (by decide) (by decide)]) (by rw [ak 6 (by decide) (by decide) (by decide) (by decide)])
  · intro i hi
    rw [x.e37] at hi
    exact RI_.keep (ri i hi) hf hS (by rw [row 38 (by decide)]) (by rw [ak 7 (by decide) (by decide) (by decide) (by decide)]) (by rw [ak 8 (by decide) (by decide) (by decide) (by decide)])
  · intro q hq'
    rw [x.e24] at hq'
    by_cases e : q = P.1 24
    · subst e
      unfold RQ_
      rw [v9, v10, v11, x.v25, x.v26, lN, rga_nil (Nat.le_refl _)]
      exact ⟨iQ, iN, z1⟩
    · have hq2 : q < P.1 24 := by omega
      refine RQ_.keep (rq q hq2) hf hS (rj 25 q e) (aj 9 q e) (aj 10 q e) (aj 11 q e) ?_
      rw [ak 12 (by decide) (by decide) (by decide) (by decide), lX q hq2, rj 26 q e]
      exact LSx_fs (rq q hq2).2.2 hf h8 (nS 11 q hq2 (by omega))
  · intro l hl'
    rw [x.e27] at hl'
    exact RL_.keep (rl l hl') hf hS (fun k hk => by rw [row k (by omega)]) (fun k _ => by rw [b22]) (row 7 (by decide)) (fun k a b => by rw [ak k (by omega) (by omega) (by omega) (by omega)]) (wold l hl')
  · unfold RN_
    rw [x.e27, x.e24, x.e15, ak 32 (by decide) (by decide) (by decide) (by decide), row 23 (by decide)]
    refine ⟨n1, fun q l a b d => ?_, fun c' q a b d => ?_, fun i hi => ?_⟩
    case refine_3 =>
      obtain ⟨l, a, b, d, e, f⟩ := n3.2 i (by rw [← x.e37]; exact hi)
      have w9 := wold l a
      rw [ak 32 (by decide) (by decide) (by decide) (by decide)] at w9
      exact ⟨l, a, by rw [row 38 (by decide), row 32 (by decide)]; exact b, by rw [row 36 (by decide)]; exact d, by rw [iX]; exact e, by rw [w9, ak 7 (by decide) (by decide) (by decide) (by decide)]; exact f⟩
    · by_cases e : q = P.1 24
      · subst e
        rw [x.v26] at b; rw [lN] at d; omega
      · rw [aj 33 q e]
        exact n2 q l (by omega) (by rw [← rj 26 q e]; exact b) (by rw [← lX q (by omega)]; exact d)
    · by_cases e : q = P.1 24
      · subst e
        rw [v33]
        rw [qX] at d
        by_cases e1 : c' + 1 < P.1 15
        · rw [if_pos e1] at d
          have := (hsq.fm (c' + 1) (c' + 1) (Nat.le_refl _) e1).2
          omega
        · omega
      · rw [aj 33 q e]
        refine n3.1 c' q a b ?_
        rw [qX] at d
        unfold qe
        by_cases e1 : c' + 1 < P.1 15
        · rw [if_pos e1] at d ⊢; exact d
        · rw [if_neg e1] at d ⊢; omega
  · rw [ak 0 (by decide) (by decide) (by decide) (by decide), x.e15, hcc]
  · rw [x.e24, Nat.add_sub_cancel, v9]
end REP3
section REP4
variable {t0 qc qna qdf m : Nat} {ft tv : Nat → Int32} {nv : Nat → Nat} {fh fl : Nat → Int64} {pp nn : Nat → Nat} {G G' : PG} {ad : Nat → Nat → Nat} {tg : Nat → Nat × Nat} {P X : PS}
/-- a link was read -/
theorem RX.link (h : RX t0 qc qna qdf ft tv fh fl pp nn m G ad tg P) (hsc : SIc nv P) (hsq : SIq P) (hsl : SIl tv P) (hsi : SIi ft P) (x : lks ft tv P X) (h15 : 1 ≤ P.1 15) (h24 : 1 ≤ P.1 24) (hcq : P.2.2.1 23 (P.1 15 - 1) < P.1 24) (hm : m = P.1 15) {k1 s1 n1 s2 n2 : Nat} {wo : Option Nat} (e1 : frh G k1) (e2 : frh G s1) (e3 : frh G n1) (e4 : frh G s2) (e5 : frh G n2) (hs12 : s1 ≠ s2) (hn12 : n1 ≠ n2)
    (iK : isK G' k1 s1 s2 none wo) (iS1 : isS G' s1 n1 none ((X.2.2.2.1 29 (P.1 27)).map pp) (X.2.2.1 30 (P.1 27)) (X.2.2.1 31 (P.1 27))) (iN1 : isT fh fl pp G' n1 (X.2.2.1 28 (P.1 27))) (iS2 : isS G' s2 n2 (cst tv X (P.1 27)) ((X.2.2.2.1 33 (P.1 27)).map pp) (rl0 X 34 (P.1 27)) (rl0 X 35 (P.1 27))) (iN2 : isT fh fl pp G' n2 (X.2.2.1 32 (P.1 27)))
    (hl : LSx t0 G' (ad 11 (P.1 24 - 1)) (rga (ad 12) (P.2.2.1 26 (P.1 24 - 1)) (P.1 27) ++ [k1])) (hf : LFs G G' (fun b => b = ad 11 (P.1 24 - 1) ∨ b = ad 3 (P.1 15 - 1)))
    (hw : (X.1 37 = P.1 37 ∧ LSx t0 G' (ad 3 (P.1 15 - 1)) (rga (ad 7) (P.2.2.1 36 (P.1 15 - 1)) (P.1 37)) ∧ wo = wro ft ad X (P.1 15 - 1) (P.1 27)) ∨ ∃ w, X.1 37 = P.1 37 + 1 ∧ frh G w ∧ isW G' w n2 2 ∧ LSx t0 G' (ad 3 (P.1 15 - 1)) (rga (ad 7) (P.2.2.1 36 (P.1 15 - 1)) (P.1 37) ++ [w]) ∧ wo = some w ∧ P.2.2.1 7 (X.2.2.1 32 (P.1 27)) = 1 ∧ m_find ft (P.2.2.1 8) (P.2.2.1 9) (P.2.2.1 20) (X.2.2.1 32 (P.1 27)) (P.1 18 - P.2.2.1 17 (P.1 15 - 1)) (P.2.2.1 17 (P.1 15 - 1)) = none ∧ m_find ft (P.2.2.1 8) (P.2.2.1 9) (P.2.2.1 38) (X.2.2.1 32 (P.1 27)) (P.1 37 - P.2.2.1 36 (P.1 15 - 1)) (P.2.2.1 36 (P.1 15 - 1)) = none ∧ X.2.2.1 38 (P.1 37) = X.2.2.1 32 (P.1 27))
    (hwn : P.2.2.1 7 (X.2.2.1 32 (P.1 27)) = 1 → wo ≠ none) :
    ∃ ad' tg', RX t0 qc qna qdf ft tv fh fl pp nn m G' ad' tg' X ∧ ad' 0 (X.1 15 - 1) = ad 0 (P.1 15 - 1) ∧ ad' 9 (X.1 24 - 1) = ad 9 (P.1 24 - 1) := by
  obtain ⟨hT, hq, hG, hC, rc, rp, ri, rq, rl, r1, r2, r3⟩ := h
  obtain ⟨f1, f2, f3, f4, f5, f6, f7⟩ := x.frame
  have x15 : X.1 15 = P.1 15 := f7 15 (by unfold nz; decide)
  have x18 : X.1 18 = P.1 18 := f7 18 (by unfold nz; decide)
  have x24 : X.1 24 = P.1 24 := f7 24 (by unfold nz; decide)
  have x27 := x.n27
  generalize hcc : P.1 15 - 1 = c at *
  generalize hqq : P.1 24 - 1 = q0 at *
  have hc : c < P.1 15 := by omega
  have hq0 : q0 < P.1 24 := by omega
  have kl : G.1 (ad 11 q0) = 7 := (hT 11 q0 hq0).1
  have ki : G.1 (ad 3 c) = 7 := (hT 3 c hc).1
  have hS : ∀ b, (fun b => b = ad 11 q0 ∨ b = ad 3 c) b → G.1 b = 6 ∨ G.1 b = 7 := fun b q => by rcases q with q | q <;> rw [q] <;> omega
  have h8 : ∀ b, 8 ≤ G.1 b → ¬ (fun b => b = ad 11 q0 ∨ b = ad 3 c) b := fun b a q => by have := hS b q; omega
  have nS : ∀ k j, j < cno P k → ¬ (k = 11 ∧ j = q0) → ¬ (k = 3 ∧ j = c) → ¬ (ad k j = ad 11 q0 ∨ ad k j = ad 3 c) := fun k j a b d q => by
    rcases q with q | q
    · exact hT.ne a (show q0 < cno P 11 from hq0) b q
    · exact hT.ne a (show c < cno P 3 from hc) d q
  obtain ⟨w, hw2⟩ : ∃ w, (X.1 37 = P.1 37 ∧ LSx t0 G' (ad 3 c) (rga (ad 7) (P.2.2.1 36 c) (P.1 37)) ∧ wo = wro ft ad X c (P.1 27)) ∨ (X.1 37 = P.1 37 + 1 ∧ frh G w ∧ isW G' w n2 2 ∧ LSx t0 G' (ad 3 c) (rga (ad 7) (P.2.2.1 36 c) (P.1 37) ++ [w]) ∧ wo = some w ∧ P.2.2.1 7 (X.2.2.1 32 (P.1 27)) = 1 ∧ m_find ft (P.2.2.1 8) (P.2.2.1 9) (P.2.2.1 20) (X.2.2.1 32 (P.1 27)) (P.1 18 - P.2.2.1 17 c) (P.2.2.1 17 c) = none ∧ m_find ft (P.2.2.1 8) (P.2.2.1 9) (P.2.2.1 38) (X.2.2.1 32 (P.1 27)) (P.1 37 - P.2.2.1 36 c) (P.2.2.1 36 c) = none ∧ X.2.2.1 38 (P.1 37) = X.2.2.1 32 (P.1 27)) := by
    rcases hw with a | ⟨w, a⟩
    · exact ⟨0, Or.inl a⟩
    · exact ⟨w, Or.inr a⟩
  generalize hA1 : up2 (up2 (up2 (up2 (up2 ad 12 (P.1 27) k1) 13 (P.1 27) s1) 14 (P.1 27) n1) 15 (P.1 27) s2) 16 (P.1 27) n2 = ad1 at *
  generalize hA : up2 (up2 (up2 ad1 7 (P.1 37) w) 8 (P.1 37) n2) 32 (P.1 27) c = ad' at *
  have ak : ∀ k, ¬ (12 ≤ k ∧ k ≤ 16) → k ≠ 7 → k ≠ 8 → k ≠ 32 → ad' k = ad k := fun k a b c d => by rw [← hA, up2_r _ _ _ d, up2_r _ _ _ c, up2_r _ _ _ b, ← hA1, up2_r _ _ _ (by omega), up2_r _ _ _ (by omega), up2_r _ _ _ (by omega), up2_r _ _ _ (by omega), up2_r _ _ _ (by omega)]
  have a1 : ∀ k j, j ≠ P.1 27 → ad1 k j = ad k j := fun k j a => by rw [← hA1, up2_k _ _ _ _ a, up2_k _ _ _ _ a, up2_k _ _ _ _ a, up2_k _ _ _ _ a, up2_k _ _ _ _ a]
  have a7 : ∀ k j, k = 7 ∨ k = 8 → j < P.1 37 → ad' k j = ad k j := fun k j a b => by rw [← hA, up2_r _ _ _ (by omega), up2_k _ _ _ _ (by omega), up2_k _ _ _ _ (by omega), ← hA1, up2_r _ _ _ (by omega), up2_r _ _ _ (by omega), up2_r _ _ _ (by omega), up2_r _ _ _ (by omega), up2_r _ _ _ (by omega)]
  have al : ∀ k j, (12 ≤ k ∧ k ≤ 16) ∨ k = 32 → j ≠ P.1 27 → ad' k j = ad k j := fun k j a b => by rw [← hA, up2_k _ _ _ _ b, up2_r _ _ _ (by omega), up2_r _ _ _ (by omega), a1 k j b]
  have a12 : ∀ k, 12 ≤ k ∧ k ≤ 16 → ad' k (P.1 27) = ad1 k (P.1 27) := fun k a => by rw [← hA, up2_r _ _ _ (by omega), up2_r _ _ _ (by omega), up2_r _ _ _ (by omega)]
  have v12 : ad' 12 (P.1 27) = k1 := by rw [a12 12 (by decide), ← hA1]; simp [up2]
  have v13 : ad' 13 (P.1 27) = s1 := by rw [a12 13 (by decide), ← hA1]; simp [up2]
  have v14 : ad' 14 (P.1 27) = n1 := by rw [a12 14 (by decide), ← hA1]; simp [up2]
  have v15 : ad' 15 (P.1 27) = s2 := by rw [a12 15 (by decide), ← hA1]; simp [up2]
  have v16 : ad' 16 (P.1 27) = n2 := by rw [a12 16 (by decide), ← hA1]; simp [up2]
  have v32 : ad' 32 (P.1 27) = c := by rw [← hA, up2_s]
  have v7 : ad' 7 (P.1 37) = w := by rw [← hA, up2_r _ _ _ (by decide), up2_r _ _ _ (by decide), up2_s]
  have v8 : ad' 8 (P.1 37) = n2 := by rw [← hA, up2_r _ _ _ (by decide), up2_s]
  have kne : ∀ {a b ka kb : Nat}, G'.1 a = ka → G'.1 b = kb → ka ≠ kb → a ≠ b := fun ha hb hn e => hn (by rw [← ha, ← hb, e])
  have row : ∀ k, nl k → X.2.2.1 k = P.2.2.1 k := f5
  have x7 := row 7 (by unfold nl; decide)
  have x8 := row 8 (by unfold nl; decide)
  have x9 := row 9 (by unfold nl; decide)
  have x20 := row 20 (by unfold nl; decide)
  have x23 := row 23 (by unfold nl; decide)
  have x26 := row 26 (by unfold nl; decide)
  have j17 : ∀ j, j < P.1 15 → X.2.2.1 17 j = P.2.2.1 17 j := fun j hj => f3 17 j (Or.inl rfl) (by omega)
  have j36 : ∀ j, j < P.1 15 → X.2.2.1 36 j = P.2.2.1 36 j := fun j hj => f3 36 j (Or.inr rfl) (by omega)
  have pX : ∀ c', c' < P.1 15 → pe X c' = pe P c' := fun c' h => by
    unfold pe; rw [x15, x18]
    by_cases e : c' + 1 < P.1 15
    · rw [if_pos e, if_pos e, j17 _ e]
    · rw [if_neg e, if_neg e]
  have iX : ∀ c', c' < P.1 15 → ie X c' = if c' + 1 < P.1 15 then P.2.2.1 36 (c' + 1) else X.1 37 := fun c' h => by
    unfold ie; rw [x15]
    by_cases e : c' + 1 < P.1 15
    · rw [if_pos e, if_pos e, j36 _ e]
    · rw [if_neg e, if_neg e]
  have qX : ∀ c', qe X c' = qe P c' := fun c' => by unfold qe; rw [x15, x24, x23]
  have lX : ∀ q, le_ X q = if q + 1 < P.1 24 then P.2.2.1 26 (q + 1) else P.1 27 + 1 := fun q => by unfold le_; rw [x24, x27, x26]
  have pc : pe P c = P.1 18 := by unfold pe; rw [if_neg (by omega)]
  have ic : ie P c = P.1 37 := by unfold ie; rw [if_neg (by omega)]
  have icX : ie X c = X.1 37 := by rw [iX c hc, if_neg (by omega)]
  have w5 : ad' 5 = ad 5 := ak 5 (by decide) (by decide) (by decide) (by decide)
  obtain ⟨tg', hT'⟩ : ∃ tg', RT G' ad' tg' (cno X) := by
    have t1 := RT.put (k0 := 12) (j0 := P.1 27) (hT.fr hf) (hT.fre e1) iK.1 rfl
    have t2 := RT.put (k0 := 13) (j0 := P.1 27) t1 (put_ne (hT.fre e2) (kne iK.1 iS1.1 (by decide)) rfl) iS1.1 rfl
    have t3 := RT.put (k0 := 14) (j0 := P.1 27) t2 (put_ne (put_ne (hT.fre e3) (kne iK.1 iN1.1 (by decide)) rfl) (kne iS1.1 iN1.1 (by decide)) rfl) iN1.1 rfl
    have t4 := RT.put (k0 := 15) (j0 := P.1 27) t3 (put_ne (put_ne (put_ne (hT.fre e4) (kne iK.1 iS2.1 (by decide)) rfl) hs12 rfl) (kne iN1.1 iS2.1 (by decide)) rfl) iS2.1 rfl
    have t5 := RT.put (k0 := 16) (j0 := P.1 27) t4 (put_ne (put_ne (put_ne (put_ne (hT.fre e5) (kne iK.1 iN2.1 (by decide)) rfl) (kne iS1.1 iN2.1 (by decide)) rfl) hn12 rfl) (kne iS2.1 iN2.1 (by decide)) rfl) iN2.1 rfl
    rw [hA1] at t5
    have cX : ∀ k, k ≠ 7 → cno X k ≤ (if k = 16 then (if k = 15 then (if k = 14 then (if k = 13 then (if k = 12 then cno P k + 1 else cno P k) + 1 else (if k = 12 then cno P k + 1 else cno P k)) + 1 else (if k = 13 then (if k = 12 then cno P k + 1 else cno P k) + 1 else (if k = 12 then cno P k + 1 else cno P k))) + 1 else (if k = 14 then (if k = 13 then (if k = 12 then cno P k + 1 else cno P k) + 1 else (if k = 12 then cno P k + 1 else cno P k)) + 1 else (if k = 13 then (if k = 12 then cno P k + 1 else cno P k) + 1 else (if k = 12 then cno P k + 1 else cno P k)))) + 1 else (if k = 15 then (if k = 14 then (if k = 13 then (if k = 12 then cno P k + 1 else cno P k) + 1 else (if k = 12 then cno P k + 1 else cno P k)) + 1 else (if k = 13 then (if k = 12 then cno P k + 1 else cno P k) + 1 else (if k = 12 then cno P k + 1 else cno P k))) + 1 else (if k = 14 then (if k = 13 then (if k = 12 then cno P k + 1 else cno P k) + 1 else (if k = 12 then cno P k + 1 else cno P k)) + 1 else (if k = 13 then (if k = 12 then cno P k + 1 else cno P k) + 1 else (if k = 12 then cno P k + 1 else cno P k))))) := by
      intro k hk
      rw [cno_k X, cno_k P, x15, x18, x24, x27]
      by_cases e : 12 ≤ k ∧ k ≤ 16
      · rcases (show k = 12 ∨ k = 13 ∨ k = 14 ∨ k = 15 ∨ k = 16 by omega) with r | r | r | r | r <;> subst r <;> simp
      · rw [if_neg (show k ≠ 16 by omega), if_neg (show k ≠ 15 by omega), if_neg (show k ≠ 14 by omega), if_neg (show k ≠ 13 by omega), if_neg (show k ≠ 12 by omega)]
        by_cases e5 : k < 5
        · rw [if_pos e5, if_pos e5]; exact Nat.le_refl _
        · rw [if_neg e5, if_neg e5]
          by_cases e6 : k < 7
          · rw [if_pos e6, if_pos e6]; exact Nat.le_refl _
          · rw [if_neg e6, if_neg e6, if_neg hk, if_neg hk]
            by_cases e7 : k = 8
            · rw [if_pos e7]; exact Nat.zero_le _
            · rw [if_neg e7, if_neg e7]
              by_cases e8 : k < 12
              · rw [if_pos e8, if_pos e8]; exact Nat.le_refl _
              · rw [if_neg e8, if_neg e8, if_neg (show ¬ k < 17 by omega), if_neg (show ¬ k < 17 by omega)]; exact Nat.le_refl _
    have hk8 : ∀ k j, j < cno X k → k ≠ 8 ∧ k ≠ 32 := fun k j h => ⟨fun e => by rw [e] at h; exact absurd h (Nat.not_lt_zero _), fun e => by rw [e] at h; exact absurd h (Nat.not_lt_zero _)⟩
    rcases hw2 with ⟨g1, -⟩ | ⟨g1, g2, g3, -⟩
    · refine ⟨va_up (va_up (va_up (va_up (va_up tg k1 (12, P.1 27)) s1 (13, P.1 27)) n1 (14, P.1 27)) s2 (15, P.1 27)) n2 (16, P.1 27), fun k j hj => ?_⟩
      have hk := hk8 k j hj
      by_cases e : k = 7
      · subst e
        have hj7 : j < P.1 37 := by rw [← g1]; exact hj
        rw [a7 7 j (Or.inl rfl) hj7]
        have := t5 7 j hj7
        rw [← hA1, up2_r _ _ _ (by decide), up2_r _ _ _ (by decide), up2_r _ _ _ (by decide), up2_r _ _ _ (by decide), up2_r _ _ _ (by decide)] at this
        exact this
      · have : ad' k j = ad1 k j := by rw [← hA, up2_r _ _ _ hk.2, up2_r _ _ _ hk.1, up2_r _ _ _ e]
        rw [this]
        exact t5 k j (Nat.lt_of_lt_of_le hj (cX k e))
    · have hfw : ∀ k j, j < cno P k → ad k j ≠ w := hT.fre g2
      have t6 := RT.put (k0 := 7) (j0 := P.1 37) t5 (by
        rw [← hA1]
        exact put_ne (put_ne (put_ne (put_ne (put_ne hfw (kne iK.1 g3.1 (by decide)) rfl) (kne iS1.1 g3.1 (by decide)) rfl) (kne iN1.1 g3.1 (by decide)) rfl) (kne iS2.1 g3.1 (by decide)) rfl) (kne iN2.1 g3.1 (by decide)) rfl) g3.1 rfl
      refine ⟨va_up (va_up (va_up (va_up (va_up (va_up tg k1 (12, P.1 27)) s1 (13, P.1 27)) n1 (14, P.1 27)) s2 (15, P.1 27)) n2 (16, P.1 27)) w (7, P.1 37), fun k j hj => ?_⟩
      have hk := hk8 k j hj
      have : ad' k j = up2 ad1 7 (P.1 37) w k j := by rw [← hA, up2_r _ _ _ hk.2, up2_r _ _ _ hk.1]
      rw [this]
      refine t6 k j ?_
      by_cases e : k = 7
      · subst e
        show j < P.1 37 + 1
        rw [← g1]; exact hj
      · dsimp only
        rw [if_neg e]
        exact Nat.lt_of_lt_of_le hj (cX k e)
  -- the wires of the links that were there
  have wold : ∀ l, l < P.1 27 → wro ft ad' X (ad' 32 l) l = wro ft ad P (ad 32 l) l := by
    intro l hl'
    have b1 : ad 32 l < P.1 15 := by have := r1 l hl'; omega
    have x32 : X.2.2.1 32 l = P.2.2.1 32 l := f1 32 l (by decide) (by omega)
    rw [al 32 l (Or.inr rfl) (by omega)]
    have il := ie_le hsi b1
    by_cases e : ie X (ad 32 l) = ie P (ad 32 l)
    · exact wro_eq x7 x8 x9 x32 (pX _ b1) e (j17 _ b1) (j36 _ b1) (fun j _ => by rw [x20]) (fun j hj => f4 j (by omega)) (fun j _ => by rw [w5]) (fun j hj => a7 7 j (Or.inl rfl) (by omega))
    · have ec : ad 32 l = c := by
        by_cases q : ad 32 l = c
        · exact q
        · exact absurd (by rw [iX _ b1]; unfold ie; rw [if_pos (by omega), if_pos (by omega)]) e
      rw [ec] at e il ⊢
      rw [icX, ic] at e
      have g1 : X.1 37 = P.1 37 + 1 := by rcases hw2 with ⟨g1, -⟩ | ⟨g1, -⟩; exact absurd g1 e; exact g1
      have h6 := (rl l hl').2.2.2.2.2
      rw [ec] at h6
      unfold wro at h6 ⊢
      rw [x7, x8, x9, x32, x20, pX c hc, icX, g1, j17 c hc, j36 c hc]
      rw [ic] at h6 ⊢
      by_cases q : P.2.2.1 7 (P.2.2.1 32 l) = 1
      · rw [if_pos q, if_pos q]
        have h6 := h6 q
        rw [if_pos q] at h6
        rcases ef : m_find ft (P.2.2.1 8) (P.2.2.1 9) (P.2.2.1 20) (P.2.2.1 32 l) (pe P c - P.2.2.1 17 c) (P.2.2.1 17 c) with _ | y
        · rw [ef] at h6
          rcases eg : m_find ft (P.2.2.1 8) (P.2.2.1 9) (P.2.2.1 38) (P.2.2.1 32 l) (P.1 37 - P.2.2.1 36 c) (P.2.2.1 36 c) with _ | y
          · rw [eg] at h6; exact absurd rfl h6
          · have := m_find_in _ _ _ eg
            have i36 : P.2.2.1 36 c ≤ P.1 37 := by have := il.2; rw [ic] at this; exact this
            show (m_find ft _ _ (X.2.2.1 38) _ _ _).map (ad' 7) = some (ad 7 y)
            rw [show P.1 37 + 1 - P.2.2.1 36 c = (P.1 37 - P.2.2.1 36 c) + 1 by omega, m_find_x1 _ _ y (by rw [m_find_congr (g := P.2.2.1 38) _ _ (fun j a b => f4 j (by omega))]; exact eg)]
            show some (ad' 7 y) = _
            rw [a7 7 y (Or.inl rfl) (by omega)]
        · show some (ad' 5 y) = some (ad 5 y)
          rw [w5]
      · rw [if_neg q, if_neg q]
  -- the wire of the new link
  have wnew : wro ft ad' X c (P.1 27) = wo := by
    have i36 : P.2.2.1 36 c ≤ P.1 37 := by have := (ie_le hsi hc).2; rw [ic] at this; exact this
    rcases hw2 with ⟨g1, g2, g3⟩ | ⟨g1, g2, g3, g4, g5, g6, g7, g8, g9⟩
    · rw [g3]
      unfold wro
      rw [w5]
      by_cases q : X.2.2.1 7 (X.2.2.1 32 (P.1 27)) = 1
      · rw [if_pos q, if_pos q]
        rcases ef : m_find ft (X.2.2.1 8) (X.2.2.1 9) (X.2.2.1 20) (X.2.2.1 32 (P.1 27)) (pe X c - X.2.2.1 17 c) (X.2.2.1 17 c) with _ | y
        · rcases eg : m_find ft (X.2.2.1 8) (X.2.2.1 9) (X.2.2.1 38) (X.2.2.1 32 (P.1 27)) (ie X c - X.2.2.1 36 c) (X.2.2.1 36 c) with _ | y
          · rfl
          · have := m_find_in _ _ _ eg
            rw [icX, g1, j36 c hc] at this
            show some (ad' 7 y) = some (ad 7 y)
            rw [a7 7 y (Or.inl rfl) (by omega)]
        · rfl
      · rw [if_neg q, if_neg q]
    · rw [g5]
      unfold wro
      rw [x7, x8, x9, x20, pX c hc, pc, icX, g1, j17 c hc, j36 c hc, if_pos g6, g7]
      show (m_find ft _ _ (X.2.2.1 38) _ _ _).map (ad' 7) = some w
      rw [show P.1 37 + 1 - P.2.2.1 36 c = (P.1 37 - P.2.2.1 36 c) + 1 by omega, m_find_new _ _ (by rw [m_find_congr (g := P.2.2.1 38) _ _ (fun j a b => f4 j (by omega))]; exact g8) (by rw [show P.2.2.1 36 c + (P.1 37 - P.2.2.1 36 c) = P.1 37 by omega, g9]; exact m_like_rf _ _ _ _), show P.2.2.1 36 c + (P.1 37 - P.2.2.1 36 c) = P.1 37 by omega]
      show some (ad' 7 (P.1 37)) = _
      rw [v7]
  refine ⟨ad', tg', ⟨hT', ?_, ?_, ?_, ?_, ?_, ?_, ?_, ?_, ?_⟩, ?_, ?_⟩
  · rw [ak 24 (by decide) (by decide) (by decide) (by decide), ak 17 (by decide) (by decide) (by decide) (by decide)]; exact hq
  · have : GT t0 G' ad := hG.fr (hT.sub (cnz_le P)) hf h8 (fun k j a b => nS k j (Nat.lt_of_lt_of_le b (cnz_le P k)) (fun q => by rw [q.1] at b; exact absurd b (Nat.not_lt_zero _)) (fun q => by rw [q.1] at b; exact absurd b (Nat.not_lt_zero _)))
    unfold GT at this ⊢
    rw [ak 17 (by decide) (by decide) (by decide) (by decide), ak 18 (by decide) (by decide) (by decide) (by decide), ak 19 (by decide) (by decide) (by decide) (by decide), ak 20 (by decide) (by decide) (by decide) (by decide), ak 21 (by decide) (by decide) (by decide) (by decide), ak 22 (by decide) (by decide) (by decide) (by decide), ak 23 (by decide) (by decide) (by decide) (by decide)]
    exact this
  · rw [ak 24 (by decide) (by decide) (by decide) (by decide), x15, ak 0 (by decide) (by decide) (by decide) (by decide)]
    exact LSx_fs hC hf h8 (nS 24 0 (show 0 < 1 by decide) (by omega) (by omega))
  · intro c' hc'
    rw [x15] at hc'
    have il := ie_le hsi hc'
    by_cases e : c' = c
    · subst e
      obtain ⟨s1, s2, s3, s4, s5⟩ := rc c' hc'
      have i36 : P.2.2.1 36 c' ≤ P.1 37 := by have := il.2; rw [ic] at this; exact this
      unfold RC_
      rw [pX c' hc', icX, qX, row 16 (by unfold nl; decide), j17 c' hc', x23, j36 c' hc', ak 0 (by decide) (by decide) (by decide) (by decide), ak 1 (by decide) (by decide) (by decide) (by decide), ak 2 (by decide) (by decide) (by decide) (by decide), ak 3 (by decide) (by decide) (by decide) (by decide), ak 4 (by decide) (by decide) (by decide) (by decide), w5, ak 9 (by decide) (by decide) (by decide) (by decide), f6]
      refine ⟨s1.keep (hf.gs (by rw [s1.1]; decide) (by rw [s1.1]; decide) (nS 0 c' hc' (by omega) (by omega))), s2.keep (hf.gs (by rw [s2.1]; decide) (by rw [s2.1]; decide) (fun q => by have := hS _ q; rw [s2.1] at this; omega)), LSx_fs s3 hf h8 (nS 2 c' hc' (by omega) (by omega)), ?_, LSx_fs s5 hf h8 (nS 4 c' hc' (by omega) (by omega))⟩
      rcases hw2 with ⟨g1, g2, -⟩ | ⟨g1, g2, g3, g4, -⟩
      · rw [g1, rga_eq (g := ad 7) (fun j _ b => a7 7 j (Or.inl rfl) b)]; exact g2
      · rw [g1, rga_snoc i36, v7, rga_eq (g := ad 7) (fun j _ b => a7 7 j (Or.inl rfl) b)]; exact g4
    · have e1 : c' + 1 < P.1 15 := by omega
      exact RC_.keep (rc c' hc') hf hS ⟨nS 0 c' hc' (by omega) (by omega), nS 2 c' hc' (by omega) (by omega), nS 3 c' hc' (by omega) (by omega), nS 4 c' hc' (by omega) (by omega)⟩ (fun k hk => by rcases hk with r | r | r | r <;> subst r <;> first | exact j17 c' hc' | exact j36 c' hc' | rw [row _ (by unfold nl; decide)]) ⟨pX c' hc', by rw [iX c' hc', if_pos e1]; unfold ie; rw [if_pos e1], qX c'⟩ (fun j _ => by rw [f6]) (fun k hk => by rw [ak k (by omega) (by omega) (by omega) (by omega)]) (fun j _ => by rw [w5]) (fun j hj => a7 7 j (Or.inl rfl) (by omega)) (fun j _ => by rw [ak 9 (by decide) (by decide) (by decide) (by decide)])
  · intro p hp
    rw [x18] at hp
    exact RP_.keep (rp p hp) hf hS (by rw [f6]) (by rw [x20]) (by rw [row 21 (by unfold nl; decide)]) (f2 22 p (Or.inl (by decide))) (by rw [w5]) (by rw [ak 6 (by decide) (by decide) (by decide) (by decide)])
  · intro i hi
    by_cases e : i < P.1 37
    · exact RI_.keep (ri i e) hf hS (f4 i (by omega)) (a7 7 i (Or.inl rfl) e) (a7 8 i (Or.inr rfl) e)
    · rcases hw2 with ⟨g1, -⟩ | ⟨g1, g2, g3, g4, g5, g6, g7, g8, g9⟩
      · omega
      · have ei : i = P.1 37 := by omega
        subst ei
        unfold RI_
        rw [v7, v8, g9]
        exact ⟨g3, iN2⟩
  · intro q hq'
    rw [x24] at hq'
    have ll := lle_le hsl hq'
    refine RQ_.keep (rq q hq') hf hS (by rw [row 25 (by unfold nl; decide)]) (by rw [ak 9 (by decide) (by decide) (by decide) (by decide)]) (by rw [ak 10 (by decide) (by decide) (by decide) (by decide)]) (by rw [ak 11 (by decide) (by decide) (by decide) (by decide)]) ?_
    rw [lX, x26]
    by_cases e : q = q0
    · subst e
      have := (hsl.fm q q (Nat.le_refl _) hq').2
      rw [if_neg (by omega), rga_snoc this, v12, rga_eq (g := ad 12) (fun j _ b => al 12 j (Or.inl (by decide)) (by omega))]
      exact hl
    · have e1 : q + 1 < P.1 24 := by omega
      have el : le_ P q = P.2.2.1 26 (q + 1) := by unfold le_; rw [if_pos e1]
      rw [if_pos e1, rga_eq (g := ad 12) (fun j _ b => al 12 j (Or.inl (by decide)) (by omega)), ← el]
      exact LSx_fs (rq q hq').2.2 hf h8 (nS 11 q hq' (by omega) (by omega))
  · intro l hl'
    by_cases e : l = P.1 27
    · subst e
      unfold RL_
      rw [v12, v13, v14, v15, v16, v32, wnew]
      exact ⟨iK, iS1, iN1, iS2, iN2, by rw [x7]; exact hwn⟩
    · have hl2 : l < P.1 27 := by omega
      exact RL_.keep (rl l hl2) hf hS (fun k hk => f1 k l (by omega) e) (fun k _ => f2 k l (Or.inr e)) x7 (fun k a b => al k l (Or.inl ⟨a, b⟩) e) (wold l hl2)
  · unfold RN_
    rw [x27, x24, x15, x26, x23, ak 33 (by decide) (by decide) (by decide) (by decide)]
    refine ⟨fun l hl' => ?_, fun q l a b d => ?_, fun c' q a b d => r3.1 c' q a b (by rw [← qX]; exact d), fun i hi => ?_⟩
    case refine_3 =>
      by_cases e : i < P.1 37
      · obtain ⟨l, a, b, d, f, f0⟩ := r3.2 i e
        have b1 : ad 32 l < P.1 15 := by have := r1 l a; omega
        refine ⟨l, by omega, by rw [f4 i (by omega), f1 32 l (by decide) (by omega)]; exact b, by rw [al 32 l (Or.inr rfl) (by omega), j36 _ b1]; exact d, ?_, by rw [wold l a, a7 7 i (Or.inl rfl) e]; exact f0⟩
        rw [al 32 l (Or.inr rfl) (by omega), iX _ b1]
        unfold ie at f
        by_cases q : ad 32 l + 1 < P.1 15
        · rw [if_pos q] at f ⊢; exact f
        · rw [if_neg q] at f ⊢
          rcases hw2 with ⟨g1, -⟩ | ⟨g1, -⟩ <;> omega
      · rcases hw2 with ⟨g1, -⟩ | ⟨g1, g2, g3, g4, g5, g6, g7, g8, g9⟩
        · omega
        · have ei : i = P.1 37 := by omega
          have i36 : P.2.2.1 36 c ≤ P.1 37 := by have := (ie_le hsi hc).2; rw [ic] at this; exact this
          refine ⟨P.1 27, by omega, by rw [ei]; exact g9, by rw [v32, j36 c hc]; omega, by rw [v32, icX, g1]; omega, by rw [v32, wnew, ei, v7]; exact g5⟩
    · by_cases e : l = P.1 27
      · rw [e, v32, hm]; exact hc
      · rw [al 32 l (Or.inr rfl) e]; exact r1 l (by omega)
    · have ll := lle_le hsl a
      rw [lX] at d
      by_cases e : l = P.1 27
      · rw [e, v32]
        have eq0 : q = q0 := by
          by_cases e1 : q + 1 < P.1 24
          · rw [if_pos e1] at d
            have := (hsl.fm (q + 1) (q + 1) (Nat.le_refl _) e1).2
            omega
          · omega
        rw [eq0]
        exact (r3.1 c q0 hc (by omega) (by unfold qe; rw [if_neg (by omega)]; exact hq0)).symm
      · rw [al 32 l (Or.inr rfl) e]
        refine r2 q l a b ?_
        unfold le_
        by_cases e1 : q + 1 < P.1 24
        · rw [if_pos e1] at d ⊢; exact d
        · rw [if_neg e1] at d ⊢; omega
  · rw [ak 0 (by decide) (by decide) (by decide) (by decide), x15, hcc]
  · rw [ak 9 (by decide) (by decide) (by decide) (by decide), x24, hqq]
end REP4
