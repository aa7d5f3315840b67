/-! The order of the class's Nands: levels, and no ring -/
/-- x is the signal of a Nand -/
def nds (isD : Nat → Bool) (fg ng x : Nat) : Prop := ∃ j, j < ng ∧ x = fg + j ∧ isD j = false
/-- what holds while the Nands are put in order; h: how many stand on the stack -/
def NI (isD : Nat → Bool) (fi si : Nat → Nat) (fg ng h : Nat) (T : AS) : Prop :=
  (∀ i, i < h → T.1 i < ng ∧ T.2.1 (fg + T.1 i) = 0) ∧ (∀ i, i + 1 < h → fi (T.1 i) = fg + T.1 (i + 1) ∨ si (T.1 i) = fg + T.1 (i + 1)) ∧ (∀ j, j < ng → T.2.1 (fg + j) = 0 → ∃ i, i < h ∧ T.1 i = j) ∧
  (∀ j, j < ng → (isD j = true ↔ T.2.1 (fg + j) = 2)) ∧ (∀ j, j < fg → T.2.1 j = 2) ∧
  (∀ j, j < ng → 3 ≤ T.2.1 (fg + j) → 2 ≤ T.2.1 (fi j) ∧ 2 ≤ T.2.1 (si j) ∧ T.2.1 (fg + j) = ar_l fi si T j + 2 ∧ T.2.1 (fg + j) ≤ T.2.2.2.2 + 2 ∧ ∃ p, p < T.2.2.2.1 ∧ T.2.2.1 p = j) ∧
  (∀ p, p < T.2.2.2.1 → T.2.2.1 p < ng ∧ 3 ≤ T.2.1 (fg + T.2.2.1 p) ∧ ∀ j, j < ng → (fi (T.2.2.1 p) = fg + j ∨ si (T.2.2.1 p) = fg + j) → isD j = false → ∃ p', p' < p ∧ T.2.2.1 p' = j) ∧
  (∀ p p', p < p' → p' < T.2.2.2.1 → T.2.2.1 p ≠ T.2.2.1 p') ∧ (T.2.2.2.2 = 0 ∨ ∃ j, j < ng ∧ T.2.1 (fg + j) = T.2.2.2.2 + 2)
section NIS
variable {isD : Nat → Bool} {fi si : Nat → Nat} {fg ng h : Nat} {T : AS}
/-- lev of any signal: 0 open, 1 not seen, else known -/
theorem NI.push (N : NI isD fi si fg ng h T) (hh : 0 < h) {x : Nat} (hx : x < fg + ng) (h1 : T.2.1 x = 1) (hc : fi (T.1 (h - 1)) = x ∨ si (T.1 (h - 1)) = x) : NI isD fi si fg ng (h + 1) (va_up T.1 h (x - fg), va_up T.2.1 x 0, T.2.2) := by
  obtain ⟨n1, n2, n3, n4, n5, n6, n7, n8, n9⟩ := N
  have hg : fg ≤ x := by
    by_cases q : fg ≤ x
    · exact q
    · have := n5 x (by omega); omega
  have e : fg + (x - fg) = x := by omega
  have ne : ∀ y, y ≠ x → va_up T.2.1 x 0 y = T.2.1 y := fun y hy => va_up_ne _ _ hy
  have nl : ∀ y, 2 ≤ T.2.1 y → va_up T.2.1 x 0 y = T.2.1 y := fun y hy => ne y (fun q => by rw [q, h1] at hy; omega)
  refine ⟨fun i hi => ?_, fun i hi => ?_, fun j hj h0 => ?_, fun j hj => ?_, fun j hj => ?_, fun j hj h3 => ?_, fun p hp => ?_, n8, ?_⟩
  · show va_up T.1 h (x - fg) i < ng ∧ va_up T.2.1 x 0 (fg + va_up T.1 h (x - fg) i) = 0
    by_cases q : i = h
    · subst q; rw [va_up_self, e, va_up_self]; exact ⟨by omega, rfl⟩
    · rw [va_up_ne _ _ q]
      obtain ⟨a, b⟩ := n1 i (by omega)
      refine ⟨a, ?_⟩
      by_cases q2 : fg + T.1 i = x
      · rw [q2, va_up_self]
      · rw [ne _ q2]; exact b
  · show fi (va_up T.1 h (x - fg) i) = fg + va_up T.1 h (x - fg) (i + 1) ∨ si (va_up T.1 h (x - fg) i) = fg + va_up T.1 h (x - fg) (i + 1)
    rw [va_up_ne _ _ (show i ≠ h by omega)]
    by_cases q : i + 1 = h
    · rw [q, va_up_self, e, show i = h - 1 by omega]; exact hc
    · rw [va_up_ne _ _ q]; exact n2 i (by omega)
  · have h0 : va_up T.2.1 x 0 (fg + j) = 0 := h0
    show ∃ i, i < h + 1 ∧ va_up T.1 h (x - fg) i = j
    by_cases q : fg + j = x
    · exact ⟨h, by omega, by rw [va_up_self]; omega⟩
    · rw [ne _ q] at h0
      obtain ⟨i, a, b⟩ := n3 j hj h0
      exact ⟨i, by omega, by rw [va_up_ne _ _ (by omega)]; exact b⟩
  · show isD j = true ↔ va_up T.2.1 x 0 (fg + j) = 2
    by_cases q : fg + j = x
    · rw [q, va_up_self, n4 j hj, q, h1]; exact ⟨fun z => by omega, fun z => by omega⟩
    · rw [ne _ q]; exact n4 j hj
  · show va_up T.2.1 x 0 j = 2
    rw [ne _ (by omega)]; exact n5 j hj
  · have h3 : 3 ≤ va_up T.2.1 x 0 (fg + j) := h3
    have q : fg + j ≠ x := fun q => by rw [q, va_up_self] at h3; omega
    rw [ne _ q] at h3
    obtain ⟨a1, a2, a3, a4⟩ := n6 j hj h3
    show 2 ≤ va_up T.2.1 x 0 (fi j) ∧ 2 ≤ va_up T.2.1 x 0 (si j) ∧ va_up T.2.1 x 0 (fg + j) = 1 + max (va_up T.2.1 x 0 (fi j) - 2) (va_up T.2.1 x 0 (si j) - 2) + 2 ∧ va_up T.2.1 x 0 (fg + j) ≤ _ ∧ _
    rw [nl _ a1, nl _ a2, ne _ q]
    exact ⟨a1, a2, a3, a4⟩
  · obtain ⟨a1, a2, a3⟩ := n7 p hp
    refine ⟨a1, ?_, a3⟩
    show 3 ≤ va_up T.2.1 x 0 (fg + T.2.2.1 p)
    rw [nl _ (by omega)]; exact a2
  · rcases n9 with q | ⟨j, a, b⟩
    · exact Or.inl q
    · refine Or.inr ⟨j, a, ?_⟩
      show va_up T.2.1 x 0 (fg + j) = _
      rw [nl _ (by rw [b]; omega)]; exact b
theorem NI.pop (N : NI isD fi si fg ng h T) (hh : 0 < h) (hd : ∀ i j, i < j → j < h → T.1 i ≠ T.1 j) (hf : ∀ x, x < ng → fi x < fg + ng) (hs : ∀ x, x < ng → si x < fg + ng) (ha : 2 ≤ T.2.1 (fi (T.1 (h - 1)))) (hb : 2 ≤ T.2.1 (si (T.1 (h - 1)))) : NI isD fi si fg ng (h - 1) (ap fg (T.1 (h - 1)) (ar_l fi si T (T.1 (h - 1))) T) := by
  obtain ⟨n1, n2, n3, n4, n5, n6, n7, n8, n9⟩ := N
  obtain ⟨t1, t2⟩ := n1 (h - 1) (by omega)
  have hne : ∀ i, i < h - 1 → T.1 i ≠ T.1 (h - 1) := fun i hi => hd i (h - 1) hi (by omega)
  obtain ⟨v, hv⟩ : ∃ z, z = ar_l fi si T (T.1 (h - 1)) := ⟨_, rfl⟩
  have hv1 : 1 ≤ v := by rw [hv]; unfold ar_l; omega
  have hvd : v = 1 + max (T.2.1 (fi (T.1 (h - 1))) - 2) (T.2.1 (si (T.1 (h - 1))) - 2) := hv
  rw [← hv]
  clear hv
  obtain ⟨t, ht⟩ : ∃ z, z = T.1 (h - 1) := ⟨_, rfl⟩
  rw [← ht] at t1 t2 hne ha hb hvd ⊢
  have ne : ∀ y, y ≠ fg + t → va_up T.2.1 (fg + t) (v + 2) y = T.2.1 y := fun y hy => va_up_ne _ _ hy
  have nl : ∀ y, 2 ≤ T.2.1 y → va_up T.2.1 (fg + t) (v + 2) y = T.2.1 y := fun y hy => ne y (fun q => by rw [q, t2] at hy; omega)
  have od1 : ∀ p, p < T.2.2.2.1 → va_up T.2.2.1 T.2.2.2.1 t p = T.2.2.1 p := fun p hp => va_up_ne _ _ (by omega)
  have nt : ∀ p, p < T.2.2.2.1 → T.2.2.1 p ≠ t := fun p hp q => by have := (n7 p hp).2.1; rw [q, t2] at this; omega
  have lb : ∀ y, y < fg + ng → 2 ≤ T.2.1 y → nds isD fg ng y → ∃ p, p < T.2.2.2.1 ∧ fg + T.2.2.1 p = y := fun y hy h2 ⟨j, j1, j2, j3⟩ => by
    subst j2
    have : T.2.1 (fg + j) ≠ 2 := fun q => by rw [(n4 j j1).mpr q] at j3; cases j3
    obtain ⟨-, -, -, -, p, p1, p2⟩ := n6 j j1 (by omega)
    exact ⟨p, p1, by rw [p2]⟩
  refine ⟨fun i hi => ?_, fun i hi => n2 i (by omega), fun j hj h0 => ?_, fun j hj => ?_, fun j hj => ?_, fun j hj h3 => ?_, fun p hp => ?_, fun p p' hpp hp' => ?_, ?_⟩
  · show T.1 i < ng ∧ va_up T.2.1 (fg + t) (v + 2) (fg + T.1 i) = 0
    obtain ⟨a, b⟩ := n1 i (by omega)
    exact ⟨a, by rw [ne _ (by have := hne i hi; omega)]; exact b⟩
  · have h0 : va_up T.2.1 (fg + t) (v + 2) (fg + j) = 0 := h0
    show ∃ i, i < h - 1 ∧ T.1 i = j
    by_cases q : j = t
    · rw [q, va_up_self] at h0; omega
    · rw [ne _ (by omega)] at h0
      obtain ⟨i, a, b⟩ := n3 j hj h0
      refine ⟨i, ?_, b⟩
      have : i ≠ h - 1 := fun z => q (by rw [ht, ← b, z])
      omega
  · show isD j = true ↔ va_up T.2.1 (fg + t) (v + 2) (fg + j) = 2
    by_cases q : j = t
    · rw [q, va_up_self]
      have := n4 t t1
      rw [t2] at this
      exact ⟨fun z => absurd (this.mp z) (by decide), fun z => by omega⟩
    · rw [ne _ (by omega)]; exact n4 j hj
  · show va_up T.2.1 (fg + t) (v + 2) j = 2
    rw [ne _ (by omega)]; exact n5 j hj
  · have h3 : 3 ≤ va_up T.2.1 (fg + t) (v + 2) (fg + j) := h3
    show 2 ≤ va_up T.2.1 (fg + t) (v + 2) (fi j) ∧ 2 ≤ va_up T.2.1 (fg + t) (v + 2) (si j) ∧ va_up T.2.1 (fg + t) (v + 2) (fg + j) = 1 + max (va_up T.2.1 (fg + t) (v + 2) (fi j) - 2) (va_up T.2.1 (fg + t) (v + 2) (si j) - 2) + 2 ∧ va_up T.2.1 (fg + t) (v + 2) (fg + j) ≤ max T.2.2.2.2 v + 2 ∧ ∃ p, p < T.2.2.2.1 + 1 ∧ va_up T.2.2.1 T.2.2.2.1 t p = j
    by_cases q : j = t
    · subst q
      rw [nl _ ha, nl _ hb, va_up_self]
      exact ⟨ha, hb, by omega, by omega, T.2.2.2.1, by omega, va_up_self _ _ _⟩
    · rw [ne _ (show fg + j ≠ fg + t by omega)] at h3 ⊢
      obtain ⟨a1, a2, a3, a4, p, a5, a6⟩ := n6 j hj h3
      rw [nl _ a1, nl _ a2]
      exact ⟨a1, a2, a3, by omega, p, by omega, by rw [od1 p a5]; exact a6⟩
  · have hp : p < T.2.2.2.1 + 1 := hp
    show va_up T.2.2.1 T.2.2.2.1 t p < ng ∧ 3 ≤ va_up T.2.1 (fg + t) (v + 2) (fg + va_up T.2.2.1 T.2.2.2.1 t p) ∧ ∀ j, j < ng → (fi (va_up T.2.2.1 T.2.2.2.1 t p) = fg + j ∨ si (va_up T.2.2.1 T.2.2.2.1 t p) = fg + j) → isD j = false → ∃ p', p' < p ∧ va_up T.2.2.1 T.2.2.2.1 t p' = j
    by_cases q : p = T.2.2.2.1
    · subst q
      rw [va_up_self, va_up_self]
      refine ⟨t1, by omega, fun j hj hc hn => ?_⟩
      have h2 : 2 ≤ T.2.1 (fg + j) := by
        rcases hc with z | z
        · rw [← z]; exact ha
        · rw [← z]; exact hb
      obtain ⟨p', p1, p2⟩ := lb (fg + j) (by omega) h2 ⟨j, hj, rfl, hn⟩
      exact ⟨p', p1, by rw [od1 p' p1]; omega⟩
    · rw [od1 p (by omega)]
      obtain ⟨a1, a2, a3⟩ := n7 p (by omega)
      refine ⟨a1, by rw [nl _ (by omega)]; exact a2, fun j hj hc hn => ?_⟩
      obtain ⟨p', p1, p2⟩ := a3 j hj hc hn
      exact ⟨p', p1, by rw [od1 p' (by omega)]; exact p2⟩
  · have hp' : p' < T.2.2.2.1 + 1 := hp'
    show va_up T.2.2.1 T.2.2.2.1 t p ≠ va_up T.2.2.1 T.2.2.2.1 t p'
    rw [od1 p (by omega)]
    by_cases q : p' = T.2.2.2.1
    · rw [q, va_up_self]; exact nt p (by omega)
    · rw [od1 p' (by omega)]; exact n8 p p' hpp (by omega)
  · show max T.2.2.2.2 v = 0 ∨ ∃ j, j < ng ∧ va_up T.2.1 (fg + t) (v + 2) (fg + j) = max T.2.2.2.2 v + 2
    right
    by_cases q : T.2.2.2.2 ≤ v
    · exact ⟨t, t1, by rw [va_up_self]; omega⟩
    · rcases n9 with z | ⟨j, a, b⟩
      · omega
      · exact ⟨j, a, by rw [nl _ (by omega)]; omega⟩
/-- a rank: each Nand needs Nands of lower rank -/
def RKN (isD : Nat → Bool) (fi si : Nat → Nat) (fg ng : Nat) (Lv : Nat → Nat) : Prop := ∀ j j', j < ng → j' < ng → isD j = false → isD j' = false → (fi j = fg + j' ∨ si j = fg + j') → Lv j' < Lv j
theorem NI.nand (N : NI isD fi si fg ng h T) {i : Nat} (hi : i < h) : isD (T.1 i) = false := by
  obtain ⟨a, b⟩ := N.1 i hi
  have := N.2.2.2.1 (T.1 i) a
  rw [b] at this
  rcases e : isD (T.1 i) with _ | _
  · rfl
  · exact absurd (this.mp e) (by decide)
/-- the stack goes down in rank -/
theorem NI.chain (N : NI isD fi si fg ng h T) {Lv : Nat → Nat} (hr : RKN isD fi si fg ng Lv) : ∀ d i, i + d < h → Lv (T.1 (i + d)) ≤ Lv (T.1 i)
  | 0, i, _ => Nat.le_refl _
  | d + 1, i, hi => by
    have a := NI.chain N hr d i (by omega)
    have b := hr (T.1 (i + d)) (T.1 (i + d + 1)) (N.1 _ (by omega)).1 (N.1 _ (by omega)).1 (N.nand (by omega)) (N.nand (by omega)) (N.2.1 (i + d) (by omega))
    show Lv (T.1 (i + d + 1)) ≤ _
    omega
/-- with a rank there is no ring -/
theorem NI.noring (N : NI isD fi si fg ng h T) {Lv : Nat → Nat} (hr : RKN isD fi si fg ng Lv) (hh : 0 < h) {x : Nat} (hx : x < fg + ng) (hc : fi (T.1 (h - 1)) = x ∨ si (T.1 (h - 1)) = x) : T.2.1 x ≠ 0 := fun h0 => by
  have hg : fg ≤ x := by
    by_cases q : fg ≤ x
    · exact q
    · have := N.2.2.2.2.1 x (by omega); omega
  obtain ⟨i, i1, i2⟩ := N.2.2.1 (x - fg) (by omega) (by rw [show fg + (x - fg) = x by omega]; exact h0)
  have a := hr (T.1 (h - 1)) (T.1 i) (N.1 _ (by omega)).1 (N.1 _ i1).1 (N.nand (by omega)) (N.nand i1) (by rw [i2, show fg + (x - fg) = x by omega]; exact hc)
  have b := N.chain hr (h - 1 - i) i (by omega)
  rw [show i + (h - 1 - i) = h - 1 by omega] at b
  omega
theorem ar_ni (hf : ∀ x, x < ng → fi x < fg + ng) (hs : ∀ x, x < ng → si x < fg + ng) : ∀ k h T, AI fg ng h T → NI isD fi si fg ng h T → 2 * (ng - h - T.2.2.2.1) + h < k → ((ar fi si fg k h T).1 = true → NI isD fi si fg ng 0 (ar fi si fg k h T).2) ∧ ∀ Lv, RKN isD fi si fg ng Lv → (ar fi si fg k h T).1 = true
  | 0, h, T, _, _, hk => absurd hk (by omega)
  | k + 1, h, T, H, N, hk => by
    rw [show k + 1 = (k + 1) - 0 from rfl, ar_u, if_pos (by omega)]
    by_cases e : h = 0
    · rw [if_pos e]; rw [e] at N; exact ⟨fun _ => N, fun _ _ => rfl⟩
    · rw [if_neg e]
      obtain ⟨a, b⟩ := H.1 (h - 1) (by omega)
      have ha := hf _ a
      have hb := hs _ a
      by_cases e1 : T.2.1 (fi (T.1 (h - 1))) = 0 ∨ T.2.1 (si (T.1 (h - 1))) = 0
      · rw [if_pos e1]
        refine ⟨fun z => (by cases z), fun Lv hr => ?_⟩
        rcases e1 with z | z
        · exact absurd z (N.noring hr (by omega) ha (Or.inl rfl))
        · exact absurd z (N.noring hr (by omega) hb (Or.inr rfl))
      · rw [if_neg e1]
        by_cases e2 : T.2.1 (fi (T.1 (h - 1))) = 1 ∨ T.2.1 (si (T.1 (h - 1))) = 1
        · rw [if_pos e2]
          obtain ⟨H2, -, -, h4⟩ := H.push (by omega) ha hb e2
          have N2 : NI isD fi si fg ng (h + 1) (ar_p fi si fg h T) := by
            unfold ar_p ar_n
            by_cases z : T.2.1 (fi (T.1 (h - 1))) = 1
            · rw [if_pos z]; exact N.push (by omega) ha z (Or.inl rfl)
            · rw [if_neg z]
              rcases e2 with q | q
              · exact absurd q z
              · exact N.push (by omega) hb q (Or.inr rfl)
          exact ar_ni hf hs k (h + 1) _ H2 N2 (by show 2 * (ng - (h + 1) - T.2.2.2.1) + (h + 1) < k; omega)
        · rw [if_neg e2]
          have H2 := (H.pop (fi := fi) (si := si) (by omega) ha hb).1
          have h5 := H.popn (by omega)
          have N2 := N.pop (by omega) H.2.1 hf hs (by omega) (by omega)
          exact ar_ni hf hs k (h - 1) _ H2 N2 (by show 2 * (ng - (h - 1) - (T.2.2.2.1 + 1)) + (h - 1) < k; omega)
theorem NI.start (N : NI isD fi si fg ng 0 T) {x : Nat} (hx : x < ng) (h1 : T.2.1 (fg + x) = 1) : NI isD fi si fg ng 1 (ar_0 fg x T) := by
  obtain ⟨n1, n2, n3, n4, n5, n6, n7, n8, n9⟩ := N
  have ne : ∀ y, y ≠ fg + x → va_up T.2.1 (fg + x) 0 y = T.2.1 y := fun y hy => va_up_ne _ _ hy
  have nl : ∀ y, 2 ≤ T.2.1 y → va_up T.2.1 (fg + x) 0 y = T.2.1 y := fun y hy => ne y (fun q => by rw [q, h1] at hy; omega)
  refine ⟨fun i hi => ?_, fun i hi => by omega, fun j hj h0 => ?_, fun j hj => ?_, fun j hj => ?_, fun j hj h3 => ?_, fun p hp => ?_, n8, ?_⟩
  · rw [show i = 0 by omega]
    show va_up T.1 0 x 0 < ng ∧ va_up T.2.1 (fg + x) 0 (fg + va_up T.1 0 x 0) = 0
    rw [va_up_self, va_up_self]; exact ⟨hx, rfl⟩
  · have h0 : va_up T.2.1 (fg + x) 0 (fg + j) = 0 := h0
    show ∃ i, i < 1 ∧ va_up T.1 0 x i = j
    by_cases q : j = x
    · exact ⟨0, by omega, by rw [va_up_self]; exact q.symm⟩
    · rw [ne _ (by omega)] at h0
      obtain ⟨i, a, -⟩ := n3 j hj h0
      omega
  · show isD j = true ↔ va_up T.2.1 (fg + x) 0 (fg + j) = 2
    by_cases q : j = x
    · rw [q, va_up_self, n4 x hx, h1]; exact ⟨fun z => by omega, fun z => by omega⟩
    · rw [ne _ (by omega)]; exact n4 j hj
  · show va_up T.2.1 (fg + x) 0 j = 2
    rw [ne _ (by omega)]; exact n5 j hj
  · have h3 : 3 ≤ va_up T.2.1 (fg + x) 0 (fg + j) := h3
    have q : fg + j ≠ fg + x := fun q => by rw [q, va_up_self] at h3; omega
    rw [ne _ q] at h3
    obtain ⟨a1, a2, a3, a4⟩ := n6 j hj h3
    show 2 ≤ va_up T.2.1 (fg + x) 0 (fi j) ∧ 2 ≤ va_up T.2.1 (fg + x) 0 (si j) ∧ va_up T.2.1 (fg + x) 0 (fg + j) = 1 + max (va_up T.2.1 (fg + x) 0 (fi j) - 2) (va_up T.2.1 (fg + x) 0 (si j) - 2) + 2 ∧ va_up T.2.1 (fg + x) 0 (fg + j) ≤ _ ∧ _
    rw [nl _ a1, nl _ a2, ne _ q]
    exact ⟨a1, a2, a3, a4⟩
  · obtain ⟨a1, a2, a3⟩ := n7 p hp
    refine ⟨a1, ?_, a3⟩
    show 3 ≤ va_up T.2.1 (fg + x) 0 (fg + T.2.2.1 p)
    rw [nl _ (by omega)]; exact a2
  · rcases n9 with q | ⟨j, a, b⟩
    · exact Or.inl q
    · refine Or.inr ⟨j, a, ?_⟩
      show va_up T.2.1 (fg + x) 0 (fg + j) = _
      rw [nl _ (by rw [b]; omega)]; exact b
/-- what was seen stays so -/
theorem ar_keep {i : Nat} : ∀ k h T, T.2.1 i ≠ 1 → (ar fi si fg k h T).2.2.1 i ≠ 1
  | 0, _, _, h1 => h1
  | k + 1, h, T, h1 => by
    rw [show k + 1 = (k + 1) - 0 from rfl, ar_u, if_pos (by omega)]
    by_cases e : h = 0
    · rw [if_pos e]; exact h1
    · rw [if_neg e]
      by_cases e1 : T.2.1 (fi (T.1 (h - 1))) = 0 ∨ T.2.1 (si (T.1 (h - 1))) = 0
      · rw [if_pos e1]; exact h1
      · rw [if_neg e1]
        by_cases e2 : T.2.1 (fi (T.1 (h - 1))) = 1 ∨ T.2.1 (si (T.1 (h - 1))) = 1
        · rw [if_pos e2]
          refine ar_keep k (h + 1) _ ?_
          show va_up T.2.1 (ar_n fi si T (T.1 (h - 1))) 0 i ≠ 1
          unfold va_up
          split
          · decide
          · exact h1
        · rw [if_neg e2]
          refine ar_keep k (h - 1) _ ?_
          show va_up T.2.1 (fg + T.1 (h - 1)) (ar_l fi si T (T.1 (h - 1)) + 2) i ≠ 1
          unfold va_up
          split
          · omega
          · exact h1
theorem ara_ni (hng : ng ≤ 300) (hf : ∀ x, x < ng → fi x < fg + ng) (hs : ∀ x, x < ng → si x < fg + ng) : ∀ k i T, i + k = ng → AI fg ng 0 T → NI isD fi si fg ng 0 T → (∀ j, j < i → T.2.1 (fg + j) ≠ 1) → ((ara fi si fg k i T).1 = true → AI fg ng 0 (ara fi si fg k i T).2 ∧ NI isD fi si fg ng 0 (ara fi si fg k i T).2 ∧ ∀ j, j < ng → (ara fi si fg k i T).2.2.1 (fg + j) ≠ 1) ∧ ∀ Lv, RKN isD fi si fg ng Lv → (ara fi si fg k i T).1 = true
  | 0, i, T, hi, H, N, hj => ⟨fun _ => ⟨H, N, fun j h => hj j (by omega)⟩, fun _ _ => rfl⟩
  | k + 1, i, T, hi, H, N, hj => by
    have eU : ara fi si fg (k + 1) i T = if T.2.1 (fg + i) = 1 then (if (ar fi si fg 900 1 (ar_0 fg i T)).1 = true then ara fi si fg k (i + 1) (ar fi si fg 900 1 (ar_0 fg i T)).2 else (false, (ar fi si fg 900 1 (ar_0 fg i T)).2)) else ara fi si fg k (i + 1) T := rfl
    rw [eU]
    by_cases e : T.2.1 (fg + i) = 1
    · rw [if_pos e]
      have H1 := H.start (by omega) e
      have N1 := N.start (by omega) e
      have fu : 2 * (ng - 1 - (ar_0 fg i T).2.2.2.1) + 1 < 900 := by omega
      obtain ⟨a1, a2⟩ := ar_ni hf hs 900 1 _ H1 N1 fu
      by_cases q : (ar fi si fg 900 1 (ar_0 fg i T)).1 = true
      · rw [if_pos q]
        have H2 := ar_end hf hs 900 1 _ H1 fu q
        have kp : ∀ j, T.2.1 (fg + j) ≠ 1 ∨ j = i → (ar fi si fg 900 1 (ar_0 fg i T)).2.2.1 (fg + j) ≠ 1 := fun j hh => by
          refine ar_keep 900 1 _ ?_
          show va_up T.2.1 (fg + i) 0 (fg + j) ≠ 1
          by_cases z : j = i
          · rw [z, va_up_self]; decide
          · rw [va_up_ne _ _ (by omega)]
            rcases hh with w | w
            · exact w
            · exact absurd w z
        exact ara_ni hng hf hs k (i + 1) _ (by omega) H2 (a1 q) (fun j h => kp j (by
          by_cases z : j = i
          · exact Or.inr z
          · exact Or.inl (hj j (by omega))))
      · rw [if_neg q]
        exact ⟨fun z => (by cases z), fun Lv hr => absurd (a2 Lv hr) q⟩
    · rw [if_neg e]
      exact ara_ni hng hf hs k (i + 1) T (by omega) H N (fun j h => by
        by_cases z : j = i
        · rw [z]; exact e
        · exact hj j (by omega))
end NIS
