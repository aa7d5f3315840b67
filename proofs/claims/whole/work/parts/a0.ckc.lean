/-! The checks of one chip: what they leave alone, and what they tell -/
section CKC
variable {t0 qc qna qdf : Nat} {ft tv gw gp : Nat → Int32} {nv : Nat → Nat} {T : Nat} {fk : Nat → Int32} {pp nn : Nat → Nat} {fh fl : Nat → Int64} {G G' : PG} {ad : Nat → Nat → Nat} {tg : Nat → Nat × Nat} {P S S' : PS} {c q l i x y ld : Nat}
/-- row 39 outside chip c, and the truths, are as before -/
def fil (P : PS) (c : Nat) (S S' : PS) : Prop := S'.2.2.2.2 = S.2.2.2.2 ∧ ∀ y, ¬ (P.2.2.1 36 c ≤ y ∧ y < P.2.2.1 36 (c + 1)) → S'.2.2.2.1 39 y = S.2.2.2.1 39 y
theorem fil.rf : fil P c S S := ⟨rfl, fun _ _ => rfl⟩
theorem fil.tr {S2 : PS} (h : fil P c S S') (g : fil P c S' S2) : fil P c S S2 := ⟨g.1.trans h.1, fun y a => (g.2 y a).trans (h.2 y a)⟩
theorem fil_link (hk : kp P S) : fil P c S (fi_link ft gp c i l S) := by
  refine ⟨?_, fun y hy => ?_⟩
  · rw [fi_link_e hk]
    rcases q_pin ft gp P i (P.2.2.1 28 l) with _ | x
    · rfl
    · rcases q_ri ft P c l with _ | y
      · rfl
      · show (if m_isOut (P.2.2.2.2 19) i x = true ∧ S.2.2.2.1 39 y = some 0 then aos S 39 y (q_lb P i x l) else S).2.2.2.2 = _
        split <;> rfl
  · rcases (fi_link_39 (ft := ft) (gp := gp) (c := c) (i := i) (l := l) hk).2 y with ⟨x, -, -, a3, -, -⟩ | ⟨-, a⟩
    · unfold q_ri at a3
      split at a3
      · have := m_find_in _ _ _ a3
        omega
      · cases a3
    · exact a
theorem fil_links : ∀ k l S, kp P S → fil P c S (fi_links ft gp c i k l S)
  | 0, _, _, _ => fil.rf
  | k + 1, l, S, hk => (fil_link hk).tr (fil_links k (l + 1) _ (kp_tr hk (kp_filink _ _ _ _ _ _)))
theorem fil_part (hk : kp P S) : fil P c S (fi_part ft gw gp c q S) := by
  have e : fil P c S (fi_is ft gw q S) := ⟨rfl, fun y _ => aos_k (S := S) (k := 44) (k' := 39) (j := q) (j' := y) (fun z => absurd z.1 (by decide))⟩
  have hk2 : kp P (fi_is ft gw q S) := kp_tr hk (kp_aos (Or.inr rfl))
  unfold fi_part
  rcases q_chip ft gw S (S.2.2.1 25 q) with _ | i
  · exact e
  · exact e.tr (fil_links _ _ _ hk2)
theorem fil_parts : ∀ k q S, kp P S → fil P c S (fi_parts ft gw gp c k q S)
  | 0, _, _, _ => fil.rf
  | k + 1, q, S, hk => (fil_part hk).tr (fil_parts k (q + 1) _ (kp_tr hk (kp_fipart _ _ _ _ _ _)))
/-- row 44 stays small -/
def s44 (S : PS) : Prop := ∀ q i, S.2.2.2.1 44 q = some i → i < 10
theorem s44_links : ∀ k l S, kp P S → (fi_links ft gp c i k l S).2.2.2.1 44 = S.2.2.2.1 44
  | 0, _, _, _ => rfl
  | k + 1, l, S, hk => (s44_links k (l + 1) _ (kp_tr hk (kp_filink _ _ _ _ _ _))).trans (fi_link_39 (ft := ft) (gp := gp) (c := c) (i := i) (l := l) hk).1
theorem s44_part (h : KC ft tv gw gp nv T fk pp nn fh fl P) (hk : kp P S) (hq : q < P.1 24) (hs : s44 S) : s44 (fi_part ft gw gp c q S) := by
  have e : s44 (fi_is ft gw q S) := fun q' i' e' => by
    have e' : (aos S 44 q (q_chip ft gw S (S.2.2.1 25 q))).2.2.2.1 44 q' = some i' := e'
    by_cases z : q' = q
    · subst z
      rw [aos_s, q_chip_kp hk, hk.2.1 25 (by decide) (by decide)] at e'
      have := q_chip_in h (h.qn q' hq).2 (h.qn q' hq).1 e'
      have s15 : P.1 15 ≤ 8 := h.2.2.1.2.2.2.1.1
      omega
    · rw [aos_k (fun r => z r.2)] at e'
      exact hs q' i' e'
  have hk2 : kp P (fi_is ft gw q S) := kp_tr hk (kp_aos (Or.inr rfl))
  unfold fi_part
  rcases q_chip ft gw S (S.2.2.1 25 q) with _ | i
  · exact e
  · intro q' i' e'
    have e' : (fi_links ft gp c i (S.2.2.1 26 (q + 1) - S.2.2.1 26 q) (S.2.2.1 26 q) (fi_is ft gw q S)).2.2.2.1 44 q' = some i' := e'
    rw [s44_links _ _ _ hk2] at e'
    exact e q' i' e'
theorem s44_parts (h : KC ft tv gw gp nv T fk pp nn fh fl P) : ∀ k q S, kp P S → q + k ≤ P.1 24 → s44 S → s44 (fi_parts ft gw gp c k q S)
  | 0, _, _, _, _, hs => hs
  | k + 1, q, S, hk, hq, hs => s44_parts h k (q + 1) _ (kp_tr hk (kp_fipart _ _ _ _ _ _)) (by omega) (s44_part h hk (by omega) hs)
/-- the checks of links leave these rows alone -/
theorem krin_O {b : Nat} {ob : Bool} : (kr_in l y ob b S).2.2.2.2.1 = S.2.2.2.1 := by
  unfold kr_in
  split
  · split
    · rfl
    · split <;> rfl
  · split
    · rfl
    · split <;> rfl
theorem krpin_O {b : Nat} {ob : Bool} : (kr_pin l x ob b S).2.2.2.2.1 = S.2.2.2.1 := by
  unfold kr_pin
  split
  · split
    · split
      · split <;> rfl
      · rfl
    · rfl
  · rfl
theorem kr_O {b : Nat} {ob : Bool} : (kr_ ft c l ob b S).2.2.2.2.1 = S.2.2.2.1 := by
  unfold kr_
  split
  · rcases q_own ft S c (S.2.2.1 32 l) with _ | x
    · rcases q_inn ft S c (S.2.2.1 32 l) with _ | y
      · rfl
      · exact krin_O
    · exact krpin_O
  · split <;> rfl
theorem kl_O : (kl_link ft gp c i l S).2.2.2.2.1 = S.2.2.2.1 := by
  unfold kl_link
  rcases q_pin ft gp S i (S.2.2.1 28 l) with _ | x
  · rfl
  · show (match q_lb S i x l with
      | none => (some (5, (S.2.2.2.1 29 l).getD 0), S)
      | some b => if m_isOut (S.2.2.2.2 19) i x = true then kr_ ft c l true b S else if S.2.2.1 48 x &&& q_ls S i x l = 0 then kr_ ft c l false b (cl_3 i x l S) else (some (3, S.2.2.1 28 l), S) : Option (Nat × Nat) × PS).2.2.2.2.1 = _
    rcases q_lb S i x l with _ | b
    · rfl
    · show (if m_isOut (S.2.2.2.2 19) i x = true then kr_ ft c l true b S else if S.2.2.1 48 x &&& q_ls S i x l = 0 then kr_ ft c l false b (cl_3 i x l S) else (some (3, S.2.2.1 28 l), S)).2.2.2.2.1 = _
      split
      · exact kr_O
      · split
        · exact kr_O
        · rfl
theorem kls_O : ∀ k l S, (kl_links ft gp c i k l S).2.2.2.2.1 = S.2.2.2.1
  | 0, _, _ => rfl
  | k + 1, l, S => by
    show (if (kl_link ft gp c i l S).1 = none then kl_links ft gp c i k (l + 1) (kl_link ft gp c i l S).2 else kl_link ft gp c i l S).2.2.2.2.1 = _
    split
    · exact (kls_O k (l + 1) _).trans kl_O
    · exact kl_O
theorem klp_O : (kl_part ft gp c q S).2.2.2.2.1 = S.2.2.2.1 := by
  unfold kl_part
  rcases S.2.2.2.1 44 q with _ | i
  · rfl
  · show (kl_links ft gp c i _ _ (rz 48 200 0 S)).2.2.2.2.1 = _
    rw [kls_O, (rz_48 48 200 0 S).2.2]
theorem klps_O : ∀ k q S, (kl_parts ft gp c k q S).2.2.2.2.1 = S.2.2.2.1
  | 0, _, _ => rfl
  | k + 1, q, S => by
    show (if (kl_part ft gp c q S).1 = none then kl_parts ft gp c k (q + 1) (kl_part ft gp c q S).2 else kl_part ft gp c q S).2.2.2.2.1 = _
    split
    · exact (klps_O k (q + 1) _).trans klp_O
    · exact klp_O
theorem kl_kp : kp S (kl_link ft gp c i l S).2 := by
  have e := kp_kpart (ft := ft) (gp := gp) (c := c) (i := i) 1 l S
  have e2 : (kl_links ft gp c i 1 l S).2 = (kl_link ft gp c i l S).2 := by
    show (if (kl_link ft gp c i l S).1 = none then ((none, (kl_link ft gp c i l S).2) : Option (Nat × Nat) × PS) else kl_link ft gp c i l S).2 = _
    split <;> rfl
  rw [e2] at e; exact e
/-- no fault: each link was looked at, and found right -/
theorem kls_n : ∀ k l S, (kl_links ft gp c i k l S).1 = none → ∀ l', l ≤ l' → l' < l + k → ∃ S', kp S S' ∧ S'.2.2.2.1 = S.2.2.2.1 ∧ (kl_link ft gp c i l' S').1 = none
  | 0, _, _, _ => fun l' a b => by omega
  | k + 1, l, S, h => fun l' a b => by
    have h : (if (kl_link ft gp c i l S).1 = none then kl_links ft gp c i k (l + 1) (kl_link ft gp c i l S).2 else kl_link ft gp c i l S).1 = none := h
    by_cases e : (kl_link ft gp c i l S).1 = none
    · rw [if_pos e] at h
      by_cases z : l' = l
      · rw [z]; exact ⟨S, kp_rfl S, rfl, e⟩
      · obtain ⟨S', b1, b2, b3⟩ := kls_n k (l + 1) _ h l' (by omega) (by omega)
        exact ⟨S', kp_tr kl_kp b1, b2.trans kl_O, b3⟩
    · rw [if_neg e] at h; exact absurd h e
theorem klps_n : ∀ k q S, kp P S → (kl_parts ft gp c k q S).1 = none → ∀ q', q ≤ q' → q' < q + k → ∃ i, S.2.2.2.1 44 q' = some i ∧ ∀ l, P.2.2.1 26 q' ≤ l → l < P.2.2.1 26 (q' + 1) → ∃ S', kp P S' ∧ S'.2.2.2.1 = S.2.2.2.1 ∧ (kl_link ft gp c i l S').1 = none
  | 0, _, _, _, _ => fun q' a b => by omega
  | k + 1, q, S, hk, h => fun q' a b => by
    have h : (if (kl_part ft gp c q S).1 = none then kl_parts ft gp c k (q + 1) (kl_part ft gp c q S).2 else kl_part ft gp c q S).1 = none := h
    by_cases e : (kl_part ft gp c q S).1 = none
    · rw [if_pos e] at h
      by_cases z : q' = q
      · rw [z]
        rw [kl_part_e hk] at e
        rcases e4 : S.2.2.2.1 44 q with _ | i
        · rw [e4] at e; cases e
        · rw [e4] at e
          refine ⟨i, rfl, fun l' a' b' => ?_⟩
          obtain ⟨S', b1, b2, b3⟩ := kls_n _ _ _ e l' a' (by omega)
          exact ⟨S', kp_tr (kp_tr hk (kp_rz 48 (Or.inl rfl) 200 0 S)) b1, b2.trans (by rw [(rz_48 48 200 0 S).2.2]), b3⟩
      · have kq : kp P (kl_part ft gp c q S).2 := by
          have e5 := kp_kparts (ft := ft) (gp := gp) (c := c) 1 q S
          have e6 : (kl_parts ft gp c 1 q S).2 = (kl_part ft gp c q S).2 := by
            show (if (kl_part ft gp c q S).1 = none then ((none, (kl_part ft gp c q S).2) : Option (Nat × Nat) × PS) else kl_part ft gp c q S).2 = _
            split <;> rfl
          rw [e6] at e5; exact kp_tr hk e5
        obtain ⟨i, a1, a2⟩ := klps_n k (q + 1) _ kq h q' (by omega) (by omega)
        rw [klp_O] at a1 a2
        exact ⟨i, a1, a2⟩
    · rw [if_neg e] at h; exact absurd h e
/-- an inner name on the right of a link that is right was given -/
theorem gvn_link (hR : RF t0 qc qna qdf ft tv fh fl pp nn G ad tg P) (h : KC ft tv gw gp nv T fk pp nn fh fl P) (hk : kp P S') (eO : S'.2.2.2.1 = S.2.2.2.1) (hi : inl P c q l) (h44 : S.2.2.2.1 44 q = some i) (hi2 : i < P.1 15 + 2) (f : FO ft gp P S c ld) (hl : l < ld) (hy1 : P.2.2.1 36 c ≤ y) (hy2 : y < P.2.2.1 36 (c + 1)) (hw : wrk ft ad P c l = some (ad 7 y)) (hn : (kl_link ft gp c i l S').1 = none) : S.2.2.2.1 39 y ≠ some 0 := by
  intro e0
  have b36 := h.p36 hi.1
  have b17 := h.p17 hi.1
  -- the right side is the inner name y
  have hri : P.2.2.1 7 (P.2.2.1 32 l) = 1 ∧ q_own ft P c (P.2.2.1 32 l) = none ∧ q_inn ft P c (P.2.2.1 32 l) = some y := by
    unfold wrk at hw
    split at hw
    · rename_i k7
      rcases eo : q_own ft P c (P.2.2.1 32 l) with _ | z
      · rw [eo] at hw
        have hw : (q_inn ft P c (P.2.2.1 32 l)).map (ad 7) = some (ad 7 y) := hw
        rcases ei : q_inn ft P c (P.2.2.1 32 l) with _ | y'
        · rw [ei] at hw; cases hw
        · rw [ei] at hw
          have b := m_find_in _ _ _ ei
          by_cases z : y' = y
          · exact ⟨k7, rfl, by rw [z]⟩
          · exact absurd (Option.some.inj hw) (hR.1.ne (show y' < cno P 7 by show y' < P.1 37; omega) (show y < cno P 7 by show y < P.1 37; omega) (fun r => z r.2))
      · rw [eo] at hw
        have b := m_find_in _ _ _ eo
        exact absurd (Option.some.inj hw) (hR.1.ne (show z < cno P 5 by show z < P.1 18; omega) (show y < cno P 7 by show y < P.1 37; omega) (fun r => absurd r.1 (by decide)))
    · cases hw
  obtain ⟨k7, eo, ei⟩ := hri
  unfold kl_link at hn
  rw [q_pin_kp hk, hk.2.1 28 (by decide) (by decide)] at hn
  rcases e1 : q_pin ft gp P i (P.2.2.1 28 l) with _ | x
  · rw [e1] at hn; cases hn
  rw [e1] at hn
  have hn : (match q_lb S' i x l with
    | none => (some (5, (S'.2.2.2.1 29 l).getD 0), S')
    | some b => if m_isOut (S'.2.2.2.2 19) i x = true then kr_ ft c l true b S'
      else if S'.2.2.1 48 x &&& q_ls S' i x l = 0 then kr_ ft c l false b (cl_3 i x l S') else (some (3, P.2.2.1 28 l), S') : Option (Nat × Nat) × PS).1 = none := hn
  rcases e2 : q_lb S' i x l with _ | b
  · rw [e2] at hn; cases hn
  rw [e2] at hn
  have hn : (if m_isOut (S'.2.2.2.2 19) i x = true then kr_ ft c l true b S'
      else if S'.2.2.1 48 x &&& q_ls S' i x l = 0 then kr_ ft c l false b (cl_3 i x l S') else (some (3, P.2.2.1 28 l), S') : Option (Nat × Nat) × PS).1 = none := hn
  rw [hk.2.2.2 19 (by decide)] at hn
  by_cases io : m_isOut (P.2.2.2.2 19) i x = true
  · have o : ol ft gp P S c q l i x y := ⟨hi, h44, hi2, e1, io, by unfold q_ri; rw [if_pos k7]; exact ei⟩
    rcases f y hy1 hy2 with ⟨-, b⟩ | ⟨q0, l0, i0, x0, -, b2, b3, -⟩
    · exact b q l i x hl o
    · exact qlb_pos hR h b2 (b3.symm.trans e0)
  · rw [if_neg io] at hn
    split at hn
    · have k3 : kp P (cl_3 i x l S') := kp_tr hk (by unfold cl_3; exact kp_ars (Or.inl rfl))
      unfold kr_ at hn
      rw [q_own_kp k3, q_inn_kp k3, k3.2.1 7 (by decide) (by decide), k3.2.1 32 (by decide) (by decide), if_pos k7, eo, ei] at hn
      have hn : (kr_in l y false b (cl_3 i x l S')).1 = none := hn
      unfold kr_in at hn
      rw [if_neg (by decide), if_pos (show (cl_3 i x l S').2.2.2.1 39 y = some 0 from by show S'.2.2.2.1 39 y = some 0; rw [eO]; exact e0)] at hn
      cases hn
    · cases hn
/-- a chip without a fault: all its inner names were given -/
theorem gvn (hR : RF t0 qc qna qdf ft tv fh fl pp nn G ad tg P) (h : KC ft tv gw gp nv T fk pp nn fh fl P) (hk : kp P S) (hc : c < P.1 15) (f : FO ft gp P S c (P.2.2.1 26 (P.2.2.1 23 (c + 1)))) (hi2 : ∀ q i, q < P.2.2.1 23 (c + 1) → S.2.2.2.1 44 q = some i → i < P.1 15 + 2) (hn : (kl_parts ft gp c (P.2.2.1 23 (c + 1) - P.2.2.1 23 c) (P.2.2.1 23 c) S).1 = none) (hy1 : P.2.2.1 36 c ≤ y) (hy2 : y < P.2.2.1 36 (c + 1)) : S.2.2.2.1 39 y ≠ some 0 := by
  obtain ⟨q, l, a1, -, a3⟩ := hR.2.2.2.2.2.2.2.2.2 c y hc hy1 hy2
  obtain ⟨i, b1, b2⟩ := klps_n _ _ _ hk hn q a1.2.1.1 (by have := a1.2.1; omega)
  obtain ⟨S', c1, c2, c3⟩ := b2 l a1.2.2.1 a1.2.2.2
  exact gvn_link hR h c1 c2 a1 b1 (hi2 q i a1.2.1.2 b1) f (ln_lt h a1) hy1 hy2 a3 c3
/-- a chip is found under its own name: no chip before it, and no gate, bears that name -/
theorem qchl_st (t : Nat) (P : PS) : ∀ k i z, q_chl ft P t k i (some z) = some z
  | 0, _, _ => rfl
  | k + 1, i, z => rfl
theorem qchl_s : ∀ k i, i ≤ c → c < i + k → (q_chl ft P (P.2.2.1 16 c) k i none = some (2 + c) ↔ ¬ ∃ j, i ≤ j ∧ j < c ∧ m_like ft (P.2.2.1 8) (P.2.2.1 9) (P.2.2.1 16 j) (P.2.2.1 16 c) = true)
  | 0, i, h1, h2 => by omega
  | k + 1, i, h1, h2 => by
    show q_chl ft P (P.2.2.1 16 c) k (i + 1) (if m_like ft (P.2.2.1 8) (P.2.2.1 9) (P.2.2.1 16 i) (P.2.2.1 16 c) = true then some (2 + i) else none) = some (2 + c) ↔ _
    by_cases e : i = c
    · subst e
      rw [if_pos (m_like_rf ft _ _ _), qchl_st]
      exact ⟨fun _ ⟨j, a, b, _⟩ => by omega, fun _ => rfl⟩
    · by_cases g : m_like ft (P.2.2.1 8) (P.2.2.1 9) (P.2.2.1 16 i) (P.2.2.1 16 c) = true
      · rw [if_pos g, qchl_st]
        exact ⟨fun z => absurd (Option.some.inj z) (by omega), fun z => absurd ⟨i, Nat.le_refl _, by omega, g⟩ z⟩
      · rw [if_neg g, qchl_s k (i + 1) (by omega) (by omega)]
        constructor
        · rintro hh ⟨j, a, b, d⟩
          by_cases e2 : j = i
          · exact g (e2 ▸ d)
          · exact hh ⟨j, by omega, b, d⟩
        · rintro hh ⟨j, a, b, d⟩
          exact hh ⟨j, by omega, b, d⟩
theorem k1_c (hR : RF t0 qc qna qdf ft tv fh fl pp nn G ad tg P) (h : KC ft tv gw gp nv T fk pp nn fh fl P) (hc : c < P.1 15) : (q_chip ft gw P (P.2.2.1 16 c)).map (cad ad) = some (ad 0 c) ↔ ¬ q_any (fun k => m_like ft (P.2.2.1 8) (P.2.2.1 9) (P.2.2.1 16 k) (P.2.2.1 16 c)) c 0 (!decide (q_word gw 9 ft P (P.2.2.1 16 c) = none)) = true := by
  have tc := h.cn c hc
  have e1 : (q_chip ft gw P (P.2.2.1 16 c)).map (cad ad) = some (ad 0 c) ↔ q_chip ft gw P (P.2.2.1 16 c) = some (2 + c) := by
    constructor
    · intro e
      rcases e2 : q_chip ft gw P (P.2.2.1 16 c) with _ | i
      · rw [e2] at e; cases e
      · rw [e2] at e
        have hi := q_chip_in h tc.2 tc.1 e2
        have e : cad ad i = ad 0 c := Option.some.inj e
        unfold cad at e
        split at e
        · by_cases z : i - 2 = c
          · congr 1; omega
          · exact absurd e (hR.1.ne (show i - 2 < cno P 0 by show i - 2 < P.1 15; omega) (show c < cno P 0 from hc) (fun r => z r.2))
        · exact absurd e (hR.1.ne (show i < cno P 17 by show i < 2; omega) (show c < cno P 0 from hc) (fun r => absurd r.1 (by decide)))
    · intro e
      rw [e]
      show some (cad ad (2 + c)) = _
      unfold cad
      rw [if_pos (by omega), show 2 + c - 2 = c by omega]
  rw [e1, q_any_iff]
  unfold q_chip
  rcases ew : q_word gw 9 ft P (P.2.2.1 16 c) with _ | z
  · rw [qchl_s (P.1 15) 0 (Nat.zero_le _) (by omega)]
    constructor
    · rintro hh (a | ⟨j, a, b, d⟩)
      · cases a
      · exact hh ⟨j, a, by omega, d⟩
    · rintro hh ⟨j, a, b, d⟩
      exact hh (Or.inr ⟨j, a, by omega, d⟩)
  · rw [qchl_st]
    constructor
    · intro e
      have e := Option.some.inj e
      have a1 := (h.1.k1 tc.2 tc.1).1
      have ew2 : q_word gw 9 ft P (P.2.2.1 16 c) = wix (wd ft (P.2.2.1 8 (P.2.2.1 16 c)) (P.2.2.1 9 (P.2.2.1 16 c))) gnl 0 := m_word_ix a1 gnl 9 0 0 h.2.2.2.1 (by decide)
      rw [ew2] at ew
      have := wix_in _ _ _ _ ew
      have e2 : gnl.length = 2 := rfl
      omega
    · intro hh
      exact absurd (Or.inl rfl) hh
end CKC
