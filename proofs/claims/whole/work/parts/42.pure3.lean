/-! What a range and a link leave behind, where no fault is found -/
theorem range_spec {tv : Nat → Int32} {nv : Nat → Nat} {P : PS} (h0 : (sp_range tv nv P).1 13 = 0) :
    P.1 13 = 0 ∧ (((sp_range tv nv P).2.1 41 = none ∧ (sp_range tv nv P).1 42 = 0 ∧ (sp_range tv nv P).1 43 = 0 ∧ (sp_range tv nv P).1 12 = P.1 12 ∧ sg tv (nI 91) P = false) ∨ ((sp_range tv nv P).2.1 41 = some (P.1 12) ∧ P.1 12 < (sp_range tv nv P).1 12 ∧ sg tv (nI 91) P = true)) := by
  unfold sp_range at h0 ⊢
  by_cases hs : sg tv (nI 91) P = true
  · rw [if_pos hs] at h0 ⊢
    have h3 : (sp_range3 tv P).1 13 = 0 := by
      by_cases q : (sp_range3 tv P).1 13 = 0
      · exact q
      · rw [if_neg q] at h0; exact h0
    rw [if_pos h3]
    have h2 : (sp_range2 tv P).1 13 = 0 := (f_sign h3).1
    have h1 : (sp_range1 P).1 13 = 0 := by
      unfold sp_range2 at h2
      split at h2
      · rename_i q; exact q.1
      · exact h2
    have hn := f_number (P := sp_go (os (sp_range0 P) 41 (some (P.1 12)))) h1
    have hp : P.1 13 = 0 := hn.1
    have m1 : P.1 12 + 1 ≤ (sp_range1 P).1 12 := by
      show _ ≤ (sp_number (sp_go (os (sp_range0 P) 41 (some (P.1 12))))).1 12
      rw [hn.2.2]
      have : (sp_go (os (sp_range0 P) 41 (some (P.1 12)))).1 12 = P.1 12 + 1 := if_pos hp
      omega
    have m2 : (sp_range1 P).1 12 ≤ (sp_range2 tv P).1 12 := by
      unfold sp_range2; split
      · exact Nat.le_trans (z12_go _) (z12_number _)
      · exact Nat.le_refl _
    have m3 : (sp_range2 tv P).1 12 ≤ (sp_range3 tv P).1 12 := z12_sign tv _ _
    refine ⟨hp, Or.inr ⟨range_o, ?_, hs⟩⟩
    show P.1 12 < (sp_range3 tv P).1 12
    omega
  · rw [if_neg hs] at h0 ⊢
    exact ⟨h0, Or.inl ⟨rfl, rfl, rfl, rfl, Bool.eq_false_iff.mpr hs⟩⟩
/-- the rows that stay but at the link at hand -/
def lkf (P X : PS) : Prop :=
  (∀ k j, k = 28 ∨ k = 30 ∨ k = 31 ∨ k = 32 ∨ k = 34 ∨ k = 35 → j ≠ P.1 27 → X.2.2.1 k j = P.2.2.1 k j) ∧ (∀ k j, k ≠ 29 ∧ k ≠ 33 ∨ j ≠ P.1 27 → X.2.2.2.1 k j = P.2.2.2.1 k j) ∧ (∀ k j, k = 17 ∨ k = 36 → j ≠ P.1 15 → X.2.2.1 k j = P.2.2.1 k j) ∧ (∀ j, j ≠ P.1 37 → X.2.2.1 38 j = P.2.2.1 38 j) ∧ (∀ k, nl k → X.2.2.1 k = P.2.2.1 k) ∧ X.2.2.2.2 = P.2.2.2.2 ∧ (∀ k, nz k → X.1 k = P.1 k)
/-- a link that was read: its tokens, in their order; its right side is a pin, an inner name that was there, a new one, or true or false -/
def lks (ft tv : Nat → Int32) (P X : PS) : Prop := (lkf P X) ∧ (P.1 13 = 0) ∧ (X.1 27 = P.1 27 + 1) ∧ (P.2.2.1 7 (P.1 12) = 1) ∧ (X.2.2.1 28 (P.1 27) = P.1 12) ∧ (∀ z, X.2.2.2.1 29 (P.1 27) = some z → P.1 12 < z ∧ z < X.2.2.1 32 (P.1 27)) ∧ (X.2.2.2.1 29 (P.1 27) = none → X.2.2.1 30 (P.1 27) = 0 ∧ X.2.2.1 31 (P.1 27) = 0) ∧ (P.1 12 < X.2.2.1 32 (P.1 27)) ∧ (X.2.2.1 32 (P.1 27) < X.1 12) ∧ (∀ z, X.2.2.2.1 33 (P.1 27) = some z → X.2.2.1 32 (P.1 27) < z ∧ z < X.1 12) ∧ ((P.2.2.1 7 (X.2.2.1 32 (P.1 27)) = 1 ∧ (X.2.2.2.1 33 (P.1 27) = none → X.2.2.1 34 (P.1 27) = 0 ∧ X.2.2.1 35 (P.1 27) = 0) ∧ X.2.2.1 17 (P.1 15) = P.1 18 ∧ X.2.2.1 36 (P.1 15) = P.1 37 ∧ (∀ A, A = m_find ft (P.2.2.1 8) (P.2.2.1 9) (P.2.2.1 20) (X.2.2.1 32 (P.1 27)) (P.1 18 - P.2.2.1 17 (P.1 15 - 1)) (P.2.2.1 17 (P.1 15 - 1)) → ∀ B, B = m_find ft (P.2.2.1 8) (P.2.2.1 9) (P.2.2.1 38) (X.2.2.1 32 (P.1 27)) (P.1 37 - P.2.2.1 36 (P.1 15 - 1)) (P.2.2.1 36 (P.1 15 - 1)) → (A = none ∧ B = none ∧ X.1 37 = P.1 37 + 1 ∧ X.2.2.1 38 (P.1 37) = X.2.2.1 32 (P.1 27) ∧ P.1 37 - P.2.2.1 36 (P.1 15 - 1) < 30) ∨ (¬ (A = none ∧ B = none) ∧ X.1 37 = P.1 37 ∧ X.2.2.1 38 = P.2.2.1 38))) ∨ (P.2.2.1 7 (X.2.2.1 32 (P.1 27)) = 5 ∧ (tv (X.2.2.1 32 (P.1 27)) = nI 4 ∨ tv (X.2.2.1 32 (P.1 27)) = nI 5) ∧ X.2.2.2.1 33 (P.1 27) = none ∧ X.1 37 = P.1 37 ∧ X.2.2.1 38 = P.2.2.1 38))
theorem lks.frame {ft tv : Nat → Int32} {P X : PS} (h : lks ft tv P X) : lkf P X := h.1
theorem lks.z13 {ft tv : Nat → Int32} {P X : PS} (h : lks ft tv P X) : P.1 13 = 0 := h.2.1
theorem lks.n27 {ft tv : Nat → Int32} {P X : PS} (h : lks ft tv P X) : X.1 27 = P.1 27 + 1 := h.2.2.1
theorem lks.kl {ft tv : Nat → Int32} {P X : PS} (h : lks ft tv P X) : P.2.2.1 7 (P.1 12) = 1 := h.2.2.2.1
theorem lks.la {ft tv : Nat → Int32} {P X : PS} (h : lks ft tv P X) : X.2.2.1 28 (P.1 27) = P.1 12 := h.2.2.2.2.1
theorem lks.lr {ft tv : Nat → Int32} {P X : PS} (h : lks ft tv P X) : ∀ z, X.2.2.2.1 29 (P.1 27) = some z → P.1 12 < z ∧ z < X.2.2.1 32 (P.1 27) := h.2.2.2.2.2.1
theorem lks.l0 {ft tv : Nat → Int32} {P X : PS} (h : lks ft tv P X) : X.2.2.2.1 29 (P.1 27) = none → X.2.2.1 30 (P.1 27) = 0 ∧ X.2.2.1 31 (P.1 27) = 0 := h.2.2.2.2.2.2.1
theorem lks.lt {ft tv : Nat → Int32} {P X : PS} (h : lks ft tv P X) : P.1 12 < X.2.2.1 32 (P.1 27) := h.2.2.2.2.2.2.2.1
theorem lks.rt {ft tv : Nat → Int32} {P X : PS} (h : lks ft tv P X) : X.2.2.1 32 (P.1 27) < X.1 12 := h.2.2.2.2.2.2.2.2.1
theorem lks.rr {ft tv : Nat → Int32} {P X : PS} (h : lks ft tv P X) : ∀ z, X.2.2.2.1 33 (P.1 27) = some z → X.2.2.1 32 (P.1 27) < z ∧ z < X.1 12 := h.2.2.2.2.2.2.2.2.2.1
theorem lks.kr {ft tv : Nat → Int32} {P X : PS} (h : lks ft tv P X) : (P.2.2.1 7 (X.2.2.1 32 (P.1 27)) = 1 ∧ (X.2.2.2.1 33 (P.1 27) = none → X.2.2.1 34 (P.1 27) = 0 ∧ X.2.2.1 35 (P.1 27) = 0) ∧ X.2.2.1 17 (P.1 15) = P.1 18 ∧ X.2.2.1 36 (P.1 15) = P.1 37 ∧ (∀ A, A = m_find ft (P.2.2.1 8) (P.2.2.1 9) (P.2.2.1 20) (X.2.2.1 32 (P.1 27)) (P.1 18 - P.2.2.1 17 (P.1 15 - 1)) (P.2.2.1 17 (P.1 15 - 1)) → ∀ B, B = m_find ft (P.2.2.1 8) (P.2.2.1 9) (P.2.2.1 38) (X.2.2.1 32 (P.1 27)) (P.1 37 - P.2.2.1 36 (P.1 15 - 1)) (P.2.2.1 36 (P.1 15 - 1)) → (A = none ∧ B = none ∧ X.1 37 = P.1 37 + 1 ∧ X.2.2.1 38 (P.1 37) = X.2.2.1 32 (P.1 27) ∧ P.1 37 - P.2.2.1 36 (P.1 15 - 1) < 30) ∨ (¬ (A = none ∧ B = none) ∧ X.1 37 = P.1 37 ∧ X.2.2.1 38 = P.2.2.1 38))) ∨ (P.2.2.1 7 (X.2.2.1 32 (P.1 27)) = 5 ∧ (tv (X.2.2.1 32 (P.1 27)) = nI 4 ∨ tv (X.2.2.1 32 (P.1 27)) = nI 5) ∧ X.2.2.2.1 33 (P.1 27) = none ∧ X.1 37 = P.1 37 ∧ X.2.2.1 38 = P.2.2.1 38) := h.2.2.2.2.2.2.2.2.2.2
theorem lk5_spec {tv : Nat → Int32} {nv : Nat → Nat} {P : PS} (hn : (sp_name P).1 13 = 0) (h5 : (lk5 tv nv P).1 13 = 0) :
    P.1 13 = 0 ∧ P.2.2.1 7 (P.1 12) = 1 ∧ (lk5 tv nv P).2.2.1 28 (P.1 27) = P.1 12 ∧ (∀ k j, k ≠ 28 ∧ k ≠ 30 ∧ k ≠ 31 ∨ j ≠ P.1 27 → (lk5 tv nv P).2.2.1 k j = P.2.2.1 k j) ∧ (∀ k j, k ≠ 29 ∨ j ≠ P.1 27 → (lk5 tv nv P).2.2.2.1 k j = P.2.2.2.1 k j) ∧ (lk5 tv nv P).2.2.2.2 = P.2.2.2.2 ∧
    (∀ z, (lk5 tv nv P).2.2.2.1 29 (P.1 27) = some z → P.1 12 < z ∧ z < (lk5 tv nv P).1 12) ∧ ((lk5 tv nv P).2.2.2.1 29 (P.1 27) = none → (lk5 tv nv P).2.2.1 30 (P.1 27) = 0 ∧ (lk5 tv nv P).2.2.1 31 (P.1 27) = 0) ∧ P.1 12 < (lk5 tv nv P).1 12 := by
  have fn := f_name hn
  have fs := f_sign h5
  have f3 : (lk3 tv nv P).1 13 = 0 := fs.1
  have rs := range_spec (P := lk2 P) f3
  have e27 : (sp_name P).1 27 = P.1 27 := zk_name (by decide) (by decide) (by decide)
  have e27' : (lk3 tv nv P).1 27 = P.1 27 := by unfold lk3; rw [zk_range (by decide) (by decide) (by decide) (by decide) (by decide)]; exact e27
  have e12 : (lk2 P).1 12 = P.1 12 + 1 := fn.2.2
  have s3 : (lk3 tv nv P).2.2 = (lk2 P).2.2 := ar_lk3
  have a5 : (lk5 tv nv P).2 = (lk4 (lk3 tv nv P)).2 := by unfold lk5; rw [ar_sign]
  have g5 : (lk5 tv nv P).1 12 = (lk3 tv nv P).1 12 + 1 := by
    unfold lk5; rw [fs.2.2]; exact if_pos fs.1
  have m3 : (lk2 P).1 12 ≤ (lk3 tv nv P).1 12 := z12_range tv nv (lk2 P)
  rw [a5, g5]
  have v28 : ∀ j, (lk4 (lk3 tv nv P)).2.2.1 28 j = if j = P.1 27 then P.1 12 else P.2.2.1 28 j := by
    intro j
    show (lk3 tv nv P).2.2.1 28 j = _
    rw [s3]
    show (if j = (sp_name P).1 27 then (sp_name P).1 12 - 1 else (sp_name P).2.2.1 28 j) = _
    rw [e27, fn.2.2, Nat.add_sub_cancel, ar_name]
  have vk : ∀ k, k ≠ 28 → (lk3 tv nv P).2.2.1 k = P.2.2.1 k := by
    intro k h
    rw [s3]
    show (if k = 28 then _ else (sp_name P).2.2.1 k) = _
    rw [if_neg h, ar_name]
  have vo : (lk3 tv nv P).2.2.2.1 = P.2.2.2.1 := by rw [s3]; show (sp_name P).2.2.2.1 = _; rw [ar_name]
  refine ⟨fn.1, fn.2.1, by rw [v28, if_pos rfl], fun k j h => ?_, fun k j h => ?_, ?_, ?_, ?_, by omega⟩
  · by_cases q28 : k = 28
    · subst q28
      rw [v28, if_neg (by rcases h with h | h; exact absurd rfl h.1; exact h)]
    · by_cases q30 : k = 30
      · subst q30
        show (if j = (lk3 tv nv P).1 27 then _ else (lk3 tv nv P).2.2.1 30 j) = _
        rw [if_neg (by rw [e27']; rcases h with h | h; exact absurd rfl h.2.1; exact h), vk 30 (by decide)]
      · by_cases q31 : k = 31
        · subst q31
          show (if j = (lk3 tv nv P).1 27 then _ else (lk3 tv nv P).2.2.1 31 j) = _
          rw [if_neg (by rw [e27']; rcases h with h | h; exact absurd rfl h.2.2; exact h), vk 31 (by decide)]
        · show (if k = 31 then _ else (if k = 30 then _ else (lk3 tv nv P).2.2.1 k)) j = _
          rw [if_neg q31, if_neg q30, vk k q28]
  · show (if k = 29 then (fun i => if i = (lk3 tv nv P).1 27 then (lk3 tv nv P).2.1 41 else (lk3 tv nv P).2.2.2.1 29 i) else (lk3 tv nv P).2.2.2.1 k) j = _
    by_cases q : k = 29
    · subst q
      rw [if_pos rfl]
      show (if j = (lk3 tv nv P).1 27 then _ else (lk3 tv nv P).2.2.2.1 29 j) = _
      rw [if_neg (by rw [e27']; rcases h with h | h; exact absurd rfl h; exact h), vo]
    · rw [if_neg q, vo]
  · show (lk3 tv nv P).2.2.2.2 = _
    rw [s3]; show (sp_name P).2.2.2.2 = _; rw [ar_name]
  · intro z hz
    have hz : (if P.1 27 = (lk3 tv nv P).1 27 then (lk3 tv nv P).2.1 41 else (lk3 tv nv P).2.2.2.1 29 (P.1 27)) = some z := hz
    rw [if_pos e27'.symm] at hz
    rcases rs.2 with ⟨g1, -⟩ | ⟨g1, g2, -⟩
    · have g1 : (lk3 tv nv P).2.1 41 = none := g1
      rw [g1] at hz; cases hz
    · have g1 : (lk3 tv nv P).2.1 41 = some ((lk2 P).1 12) := g1
      have g2 : (lk2 P).1 12 < (lk3 tv nv P).1 12 := g2
      rw [g1] at hz; cases hz; omega
  · intro hz
    have hz : (if P.1 27 = (lk3 tv nv P).1 27 then (lk3 tv nv P).2.1 41 else (lk3 tv nv P).2.2.2.1 29 (P.1 27)) = none := hz
    rw [if_pos e27'.symm] at hz
    rcases rs.2 with ⟨g1, g2, g3, -⟩ | ⟨g1, -, -⟩
    · have g2 : (lk3 tv nv P).1 42 = 0 := g2
      have g3 : (lk3 tv nv P).1 43 = 0 := g3
      refine ⟨?_, ?_⟩
      · show (if P.1 27 = (lk3 tv nv P).1 27 then (lk3 tv nv P).1 42 else (lk3 tv nv P).2.2.1 30 (P.1 27)) = _
        rw [if_pos e27'.symm, g2]
      · show (if P.1 27 = (lk3 tv nv P).1 27 then (lk3 tv nv P).1 43 else (lk3 tv nv P).2.2.1 31 (P.1 27)) = _
        rw [if_pos e27'.symm, g3]
    · have g1 : (lk3 tv nv P).2.1 41 = some ((lk2 P).1 12) := g1
      rw [g1] at hz; cases hz
/-- the right side with a name: what it changes -/
theorem lkx_spec {ft tv : Nat → Int32} {nv : Nat → Nat} {R : PS} (h0 : (lkx ft tv nv R).1 13 = 0) :
    R.1 13 = 0 ∧ R.1 12 < (lkx ft tv nv R).1 12 ∧ (∀ z, (lkx ft tv nv R).2.2.2.1 33 (R.1 27) = some z → R.1 12 < z ∧ z < (lkx ft tv nv R).1 12) ∧ ((lkx ft tv nv R).2.2.2.1 33 (R.1 27) = none → (lkx ft tv nv R).2.2.1 34 (R.1 27) = 0 ∧ (lkx ft tv nv R).2.2.1 35 (R.1 27) = 0) ∧ (∀ k j, k ≠ 34 ∧ k ≠ 35 ∨ j ≠ R.1 27 → (lkx ft tv nv R).2.2.1 k j = R.2.2.1 k j) ∧ (∀ k j, k ≠ 33 ∨ j ≠ R.1 27 → (lkx ft tv nv R).2.2.2.1 k j = R.2.2.2.1 k j) ∧ (lkx ft tv nv R).2.2.2.2 = R.2.2.2.2 := by
  have h9 : (lk9 tv nv R).1 13 = 0 := h0
  have rs := range_spec (P := sp_go R) h9
  have hz : R.1 13 = 0 := rs.1
  have e12 : (sp_go R).1 12 = R.1 12 + 1 := if_pos hz
  have e27 : (lk9 tv nv R).1 27 = R.1 27 := by unfold lk9; rw [zk_range (by decide) (by decide) (by decide) (by decide) (by decide)]; rfl
  have s9 : (lk9 tv nv R).2.2 = R.2.2 := by unfold lk9; rw [ar_range]; rfl
  have m9 : (sp_go R).1 12 ≤ (lk9 tv nv R).1 12 := z12_range tv nv (sp_go R)
  have x12 : (lkx ft tv nv R).1 12 = (lk9 tv nv R).1 12 := rfl
  have x33 : (lkx ft tv nv R).2.2.2.1 33 (R.1 27) = (lk9 tv nv R).2.1 41 := by
    show (if R.1 27 = (lk9 tv nv R).1 27 then (lk9 tv nv R).2.1 41 else _) = _
    rw [if_pos e27.symm]
  refine ⟨hz, by omega, fun z h => ?_, fun h => ?_, fun k j h => ?_, fun k j h => ?_, ?_⟩
  · rw [x33] at h
    rcases rs.2 with ⟨g1, -⟩ | ⟨g1, g2, -⟩
    · have g1 : (lk9 tv nv R).2.1 41 = none := g1
      rw [g1] at h; cases h
    · have g1 : (lk9 tv nv R).2.1 41 = some ((sp_go R).1 12) := g1
      have g2 : (sp_go R).1 12 < (lk9 tv nv R).1 12 := g2
      rw [g1] at h; cases h; omega
  · rw [x33] at h
    rcases rs.2 with ⟨g1, g2, g3, -⟩ | ⟨g1, -, -⟩
    · have g2 : (lk9 tv nv R).1 42 = 0 := g2
      have g3 : (lk9 tv nv R).1 43 = 0 := g3
      refine ⟨?_, ?_⟩
      · show (if R.1 27 = (lk9 tv nv R).1 27 then (lk9 tv nv R).1 42 else _) = _
        rw [if_pos e27.symm, g2]
      · show (if R.1 27 = (lk9 tv nv R).1 27 then (lk9 tv nv R).1 43 else _) = _
        rw [if_pos e27.symm, g3]
    · have g1 : (lk9 tv nv R).2.1 41 = some ((sp_go R).1 12) := g1
      rw [g1] at h; cases h
  · by_cases q34 : k = 34
    · subst q34
      show (if j = (lk9 tv nv R).1 27 then _ else (lk9 tv nv R).2.2.1 34 j) = _
      rw [if_neg (by rw [e27]; rcases h with h | h; exact absurd rfl h.1; exact h), s9]
    · by_cases q35 : k = 35
      · subst q35
        show (if j = (lk9 tv nv R).1 27 then _ else (lk9 tv nv R).2.2.1 35 j) = _
        rw [if_neg (by rw [e27]; rcases h with h | h; exact absurd rfl h.2; exact h), s9]
      · rw [lkx_ar q34 q35]
  · by_cases q : k = 33
    · subst q
      show (if j = (lk9 tv nv R).1 27 then _ else (lk9 tv nv R).2.2.2.1 33 j) = _
      rw [if_neg (by rw [e27]; rcases h with h | h; exact absurd rfl h; exact h), s9]
    · show (if k = 33 then _ else (lk9 tv nv R).2.2.2.1 k) j = _
      rw [if_neg q, s9]
  · show (lk9 tv nv R).2.2.2.2 = _; rw [s9]
theorem link_spec {ft tv : Nat → Int32} {nv : Nat → Nat} {T : Nat} {P : PS} (ho : okp T P) (ht : tkv tv nv T P.2.2.1) (hB : AB P) (hc : ci P) (h0 : (sp_link ft tv nv P).1 13 = 0) : lks ft tv P (sp_link ft tv nv P) := by
  obtain ⟨b18, b37⟩ := ci_b hc
  obtain ⟨-, -, -, zk, ak⟩ := link_keep (ft := ft) ho ht hB b18 b37
  have x17 := fun k j hk hj => link_17 (ft := ft) (tv := tv) (nv := nv) (P := P) (k := k) (j := j) hk hj
  have c15 := hc.1
  have hfn : (sp_name P).1 13 = 0 := by
    unfold sp_link at h0
    split at h0
    · exact h0
    · omega
  have hf5 : (lk5 tv nv P).1 13 = 0 := by
    unfold sp_link at h0
    rw [if_neg (by omega)] at h0
    split at h0
    · exact h0
    · omega
  obtain ⟨p13, pk, v28, va, vo, vb, vlr, vl0, v12⟩ := lk5_spec hfn hf5
  have z5 : ∀ k, k ≠ 12 → k ≠ 13 → k ≠ 14 → k ≠ 42 → k ≠ 43 → (lk5 tv nv P).1 k = P.1 k := fun k a b c d e => zk_lk5 a b c d e
  have zk' : ∀ k, nz k → (sp_link ft tv nv P).1 k = P.1 k := fun k h => zk k h.1 h.2.1 h.2.2.1 h.2.2.2.1 h.2.2.2.2.1 h.2.2.2.2.2.1 h.2.2.2.2.2.2
  have ak' : ∀ k, nl k → (sp_link ft tv nv P).2.2.1 k = P.2.2.1 k := fun k h => ak k h.1 h.2.1 h.2.2.1 h.2.2.2.1 h.2.2.2.2.1 h.2.2.2.2.2.1 h.2.2.2.2.2.2.1 h.2.2.2.2.2.2.2.1 h.2.2.2.2.2.2.2.2
  have eX : sp_link ft tv nv P = lk_rt ft tv nv (lk6 (lk5 tv nv P)) := by unfold sp_link; rw [if_neg (by omega), if_neg (by omega)]
  -- the state behind the sign =
  have e27 : (lk6 (lk5 tv nv P)).1 27 = P.1 27 := z5 27 (by decide) (by decide) (by decide) (by decide) (by decide)
  have e15 : (lk6 (lk5 tv nv P)).1 15 = P.1 15 := z5 15 (by decide) (by decide) (by decide) (by decide) (by decide)
  have e18 : (lk6 (lk5 tv nv P)).1 18 = P.1 18 := z5 18 (by decide) (by decide) (by decide) (by decide) (by decide)
  have e37 : (lk6 (lk5 tv nv P)).1 37 = P.1 37 := z5 37 (by decide) (by decide) (by decide) (by decide) (by decide)
  have e27' : (lk5 tv nv P).1 27 = P.1 27 := e27
  have e13 : (lk6 (lk5 tv nv P)).1 13 = 0 := hf5
  have e12 : (lk6 (lk5 tv nv P)).1 12 = (lk5 tv nv P).1 12 := rfl
  have w32 : (lk6 (lk5 tv nv P)).2.2.1 32 (P.1 27) = (lk6 (lk5 tv nv P)).1 12 := by
    show (if P.1 27 = (lk5 tv nv P).1 27 then _ else _) = _
    rw [if_pos e27'.symm]; rfl
  have wa : ∀ k j, k ≠ 28 ∧ k ≠ 30 ∧ k ≠ 31 ∧ k ≠ 32 ∨ j ≠ P.1 27 → (lk6 (lk5 tv nv P)).2.2.1 k j = P.2.2.1 k j := by
    intro k j h
    by_cases q : k = 32
    · subst q
      show (if j = (lk5 tv nv P).1 27 then _ else (lk5 tv nv P).2.2.1 32 j) = _
      rw [if_neg (by rw [e27']; rcases h with h | h; exact absurd rfl h.2.2.2; exact h), va 32 j (Or.inl (by decide))]
    · show (if k = 32 then _ else (lk5 tv nv P).2.2.1 k) j = _
      rw [if_neg q, va k j (by rcases h with h | h; exact Or.inl ⟨h.1, h.2.1, h.2.2.1⟩; exact Or.inr h)]
  have wn : ∀ k, k = 28 ∨ k = 30 ∨ k = 31 → (lk6 (lk5 tv nv P)).2.2.1 k = (lk5 tv nv P).2.2.1 k := by
    intro k h
    show (if k = 32 then _ else (lk5 tv nv P).2.2.1 k) = _
    rw [if_neg (by omega)]
  have w33 : (lk6 (lk5 tv nv P)).2.2.2.1 33 (P.1 27) = none := by
    show (if P.1 27 = (lk5 tv nv P).1 27 then none else _) = _
    rw [if_pos e27'.symm]
  have wo : ∀ k j, k ≠ 29 ∧ k ≠ 33 ∨ j ≠ P.1 27 → (lk6 (lk5 tv nv P)).2.2.2.1 k j = P.2.2.2.1 k j := by
    intro k j h
    by_cases q : k = 33
    · subst q
      show (if j = (lk5 tv nv P).1 27 then none else (lk5 tv nv P).2.2.2.1 33 j) = _
      rw [if_neg (by rw [e27']; rcases h with h | h; exact absurd rfl h.2; exact h), vo 33 j (Or.inl (by decide))]
    · show (if k = 33 then _ else (lk5 tv nv P).2.2.2.1 k) j = _
      rw [if_neg q, vo k j (by rcases h with h | h; exact Or.inl h.1; exact Or.inr h)]
  have w29 : (lk6 (lk5 tv nv P)).2.2.2.1 29 = (lk5 tv nv P).2.2.2.1 29 := rfl
  have wb : (lk6 (lk5 tv nv P)).2.2.2.2 = P.2.2.2.2 := vb
  rw [← e12] at vlr v12
  rw [← w29] at vlr vl0
  rw [← wn 28 (by omega)] at v28
  rw [← wn 30 (by omega), ← wn 31 (by omega)] at vl0
  rw [eX] at h0 zk' ak' x17 ⊢
  generalize lk6 (lk5 tv nv P) = X at *
  -- true or false
  by_cases hsw : sw tv (nI 4) X = true ∨ sw tv (nI 5) X = true
  · have er : lk_rt ft tv nv X = lk_end (sp_go X) := by unfold lk_rt; rw [if_pos hsw]
    rw [er] at h0 zk' ak' x17 ⊢
    have g12 : (lk_end (sp_go X)).1 12 = X.1 12 + 1 := if_pos e13
    have hk5 : X.2.2.1 7 (X.1 12) = 5 := hsw.elim sw_k sw_k
    have hv : tv (X.1 12) = nI 4 ∨ tv (X.1 12) = nI 5 := by
      rcases hsw with q | q <;> (unfold sw at q; simp at q)
      · exact Or.inl q.2
      · exact Or.inr q.2
    refine ⟨⟨fun k j hk hj => wa k j (Or.inr hj), fun k j h => wo k j h, x17, fun j _ => wa 38 j (Or.inl (by decide)), ak', wb, zk'⟩, p13, ?_, pk, v28, ?_, vl0, ?_, ?_, ?_, Or.inr ⟨?_, ?_, w33, ?_, ?_⟩⟩
    · show X.1 27 + 1 = _; rw [e27]
    · intro z hz; have := vlr z hz; show _ ∧ z < X.2.2.1 32 (P.1 27); rw [w32]; exact this
    · show _ < X.2.2.1 32 (P.1 27); rw [w32]; exact v12
    · rw [g12]; show X.2.2.1 32 (P.1 27) < _; rw [w32]; omega
    · intro z hz; have hz : X.2.2.2.1 33 (P.1 27) = some z := hz; rw [w33] at hz; cases hz
    · show P.2.2.1 7 (X.2.2.1 32 (P.1 27)) = 5
      rw [w32, ← hk5, wa 7 _ (Or.inl (by decide))]
    · show tv (X.2.2.1 32 (P.1 27)) = nI 4 ∨ tv (X.2.2.1 32 (P.1 27)) = nI 5
      rw [w32]; exact hv
    · show X.1 37 = _; exact e37
    · funext j; exact wa 38 j (Or.inl (by decide))
  · by_cases hnm : X.2.2.1 7 (X.1 12) = 1
    · have er : lk_rt ft tv nv X = lk_nm ft tv nv (lkr X) := by unfold lk_rt; rw [if_neg hsw, if_pos hnm]
      rw [er] at h0 zk' ak' x17 ⊢
      have r27 : (lkr X).1 27 = P.1 27 := e27
      have r15 : (lkr X).1 15 = P.1 15 := e15
      have r18 : (lkr X).1 18 = P.1 18 := e18
      have r37 : (lkr X).1 37 = P.1 37 := e37
      have r12 : (lkr X).1 12 = X.1 12 := rfl
      have r17 : ∀ j, (lkr X).2.2.1 17 j = if j = P.1 15 then P.1 18 else P.2.2.1 17 j := by
        intro j
        show (if j = X.1 15 then X.1 18 else X.2.2.1 17 j) = _
        rw [e15, e18, wa 17 j (Or.inl (by decide))]
      have r36 : ∀ j, (lkr X).2.2.1 36 j = if j = P.1 15 then P.1 37 else P.2.2.1 36 j := by
        intro j
        show (if j = X.1 15 then X.1 37 else X.2.2.1 36 j) = _
        rw [e15, e37, wa 36 j (Or.inl (by decide))]
      have ra : ∀ k, k ≠ 17 → k ≠ 36 → (lkr X).2.2.1 k = X.2.2.1 k := by
        intro k q1 q2
        show (if k = 36 then _ else (if k = 17 then _ else X.2.2.1 k)) = _
        rw [if_neg q2, if_neg q1]
      have ro : (lkr X).2.2.2.1 = X.2.2.2.1 := rfl
      have rbb : (lkr X).2.2.2.2 = P.2.2.2.2 := wb
      have pf : lk_pf ft (lkr X) = m_find ft (P.2.2.1 8) (P.2.2.1 9) (P.2.2.1 20) (X.1 12) (P.1 18 - P.2.2.1 17 (P.1 15 - 1)) (P.2.2.1 17 (P.1 15 - 1)) := by
        unfold lk_pf
        rw [r15, r12, show P.1 15 - 1 + 1 = P.1 15 by omega, r17, r17, if_pos rfl, if_neg (by omega), ra 8 (by decide) (by decide), ra 9 (by decide) (by decide), ra 20 (by decide) (by decide), show X.2.2.1 8 = P.2.2.1 8 from funext fun j => wa 8 j (Or.inl (by decide)), show X.2.2.1 9 = P.2.2.1 9 from funext fun j => wa 9 j (Or.inl (by decide)), show X.2.2.1 20 = P.2.2.1 20 from funext fun j => wa 20 j (Or.inl (by decide))]
      have fi : lk_if ft (lkr X) = m_find ft (P.2.2.1 8) (P.2.2.1 9) (P.2.2.1 38) (X.1 12) (P.1 37 - P.2.2.1 36 (P.1 15 - 1)) (P.2.2.1 36 (P.1 15 - 1)) := by
        unfold lk_if
        rw [r15, r12, show P.1 15 - 1 + 1 = P.1 15 by omega, r36, r36, if_pos rfl, if_neg (by omega), ra 8 (by decide) (by decide), ra 9 (by decide) (by decide), ra 38 (by decide) (by decide), show X.2.2.1 8 = P.2.2.1 8 from funext fun j => wa 8 j (Or.inl (by decide)), show X.2.2.1 9 = P.2.2.1 9 from funext fun j => wa 9 j (Or.inl (by decide)), show X.2.2.1 38 = P.2.2.1 38 from funext fun j => wa 38 j (Or.inl (by decide))]
      -- a name on the right, behind the states R (rows as in lkr X but for row 38)
      have fin : ∀ R : PS, R.1 27 = P.1 27 → R.1 12 = X.1 12 → R.2.2.2.1 = X.2.2.2.1 → R.2.2.2.2 = P.2.2.2.2 → (∀ k, k ≠ 38 → R.2.2.1 k = (lkr X).2.2.1 k) → (∀ j, j ≠ P.1 37 → R.2.2.1 38 j = P.2.2.1 38 j) → (lkx ft tv nv R).1 13 = 0 → (∀ k, nz k → (lkx ft tv nv R).1 k = P.1 k) → (∀ k, nl k → (lkx ft tv nv R).2.2.1 k = P.2.2.1 k) → (∀ k j, k = 17 ∨ k = 36 → j ≠ P.1 15 → (lkx ft tv nv R).2.2.1 k j = P.2.2.1 k j) →
          ((lk_pf ft (lkr X) = none ∧ lk_if ft (lkr X) = none ∧ R.1 37 = P.1 37 + 1 ∧ R.2.2.1 38 (P.1 37) = X.1 12 ∧ P.1 37 - P.2.2.1 36 (P.1 15 - 1) < 30) ∨ (¬ (lk_pf ft (lkr X) = none ∧ lk_if ft (lkr X) = none) ∧ R.1 37 = P.1 37 ∧ R.2.2.1 38 = P.2.2.1 38)) → lks ft tv P (lkx ft tv nv R) := by
        intro R h27 h12 hO hb ha h38 hf hzk hak hx hor
        obtain ⟨s1, s2, s3, s4, s5, s6, s7⟩ := lkx_spec hf
        rw [h27] at s3 s4 s5 s6
        have y32 : (lkx ft tv nv R).2.2.1 32 (P.1 27) = X.1 12 := by rw [s5 32 _ (Or.inl (by decide)), ha 32 (by decide), ra 32 (by decide) (by decide), w32]
        have yj : ∀ k j, k = 28 ∨ k = 30 ∨ k = 31 ∨ k = 32 ∨ k = 34 ∨ k = 35 → j ≠ P.1 27 → (lkx ft tv nv R).2.2.1 k j = P.2.2.1 k j := by
          intro k j hk hj
          rw [s5 k j (Or.inr hj), ha k (by omega), ra k (by omega) (by omega), wa k j (Or.inr hj)]
        have yl : ∀ k, k = 28 ∨ k = 30 ∨ k = 31 → (lkx ft tv nv R).2.2.1 k (P.1 27) = X.2.2.1 k (P.1 27) := by
          intro k hk
          rw [s5 k _ (Or.inl (by omega)), ha k (by omega), ra k (by omega) (by omega)]
        have y29 : (lkx ft tv nv R).2.2.2.1 29 (P.1 27) = X.2.2.2.1 29 (P.1 27) := by rw [s6 29 _ (Or.inl (by decide)), hO]
        have y38 : (lkx ft tv nv R).2.2.1 38 = R.2.2.1 38 := lkx_ar (by decide) (by decide)
        have y37 : (lkx ft tv nv R).1 37 = R.1 37 := lkx_z (by decide) (by decide) (by decide) (by decide) (by decide) (by decide)
        refine ⟨⟨yj, fun k j h => ?_, hx, fun j hj => by rw [y38]; exact h38 j hj, hak, by rw [s7, hb], hzk⟩, p13, by rw [lkx_27, h27], pk, by rw [yl 28 (by omega)]; exact v28, ?_, ?_, ?_, ?_, ?_, Or.inl ⟨?_, s4, ?_, ?_, ?_⟩⟩
        · rw [s6 k j (by rcases h with h | h; exact Or.inl h.2; exact Or.inr h), hO, wo k j h]
        · intro z hz; rw [y29] at hz; rw [y32]; exact vlr z hz
        · intro hz; rw [y29] at hz; rw [yl 30 (by omega), yl 31 (by omega)]; exact vl0 hz
        · rw [y32]; exact v12
        · rw [y32]; omega
        · intro z hz; have := s3 z hz; rw [y32]; omega
        · rw [y32, ← hnm, wa 7 _ (Or.inl (by decide))]
        · rw [s5 17 _ (Or.inl (by decide)), ha 17 (by decide), r17, if_pos rfl]
        · rw [s5 36 _ (Or.inl (by decide)), ha 36 (by decide), r36, if_pos rfl]
        · intro A hA B hB2
          rw [y32] at hA hB2
          rw [hA, hB2, ← pf, ← fi, y37, y38, y32]
          rcases hor with ⟨g1, g2, g3, g4, g5⟩ | ⟨g1, g2, g3⟩
          · exact Or.inl ⟨g1, g2, g3, g4, g5⟩
          · exact Or.inr ⟨g1, g2, g3⟩
      rw [lk_nm_x] at h0 zk' ak' x17 ⊢
      by_cases hnew : lk_pf ft (lkr X) = none ∧ lk_if ft (lkr X) = none
      · rw [if_pos hnew] at h0 zk' ak' x17 ⊢
        have h7 : ¬ 0 < (lk7 (lkr X)).1 13 := by
          intro q; rw [if_pos q] at h0; omega
        rw [if_neg h7] at h0 zk' ak' x17 ⊢
        have f7 := f_room (show (lk7 (lkr X)).1 13 = 0 by omega)
        have e7 : lk7 (lkr X) = lkr X := f7.2.2
        have lt7 := f7.2.1
        rw [r37, r15, r36, if_neg (by omega)] at lt7
        rw [e7] at h0 zk' ak' x17 ⊢
        refine fin (lk8 (lkr X)) r27 r12 ro rbb (fun k hk => ?_) (fun j hj => ?_) h0 zk' ak' x17 (Or.inl ⟨hnew.1, hnew.2, ?_, ?_, lt7⟩)
        · show (if k = 38 then _ else (lkr X).2.2.1 k) = _
          rw [if_neg hk]
        · show (if j = (lkr X).1 37 then _ else (lkr X).2.2.1 38 j) = _
          rw [r37, if_neg hj, ra 38 (by decide) (by decide), wa 38 j (Or.inl (by decide))]
        · show (lkr X).1 37 + 1 = _; rw [r37]
        · show (if P.1 37 = (lkr X).1 37 then (lkr X).1 12 else _) = _
          rw [r37, if_pos rfl, r12]
      · rw [if_neg hnew] at h0 zk' ak' x17 ⊢
        refine fin (lkr X) r27 r12 ro rbb (fun k hk => rfl) (fun j hj => ?_) h0 zk' ak' x17 (Or.inr ⟨hnew, r37, ?_⟩)
        · rw [ra 38 (by decide) (by decide), wa 38 j (Or.inl (by decide))]
        · rw [ra 38 (by decide) (by decide)]; funext j; exact wa 38 j (Or.inl (by decide))
    · exfalso
      unfold lk_rt at h0
      rw [if_neg hsw, if_neg hnm] at h0
      have : (sp_syntax X).1 13 = 0 := h0
      exact f_syntax this
/-! What the rows of the parser tell of the text: chips and pins -/
def SIc (nv : Nat → Nat) (P : PS) : Prop := (∀ k, k < P.1 15 → P.2.2.1 7 (P.2.2.1 16 k) = 1 ∧ P.2.2.1 16 k < P.1 12) ∧ (∀ k k', k < k' → k' < P.1 15 → P.2.2.1 16 k < P.2.2.1 16 k') ∧ (0 < P.1 15 → P.2.2.1 17 0 = 0) ∧ (∀ k k', k ≤ k' → k' < P.1 15 → P.2.2.1 17 k ≤ P.2.2.1 17 k' ∧ P.2.2.1 17 k' ≤ P.1 18) ∧ (∀ p, p < P.1 18 → P.2.2.1 7 (P.2.2.1 20 p) = 1 ∧ P.2.2.1 20 p < P.1 12 ∧ (∀ t, P.2.2.2.1 22 p = some t → P.2.2.1 20 p < t ∧ t < P.1 12 ∧ P.2.2.1 7 t = 2 ∧ P.2.2.1 21 p = pl_wd (nv t)) ∧ (P.2.2.2.1 22 p = none → P.2.2.1 21 p = 1)) ∧ (∀ p p', p < p' → p' < P.1 18 → P.2.2.1 20 p < P.2.2.1 20 p' ∧ ∀ t, P.2.2.2.1 22 p = some t → t < P.2.2.1 20 p') ∧ (∀ k p, k < P.1 15 → p < P.1 18 → (P.2.2.1 17 k ≤ p → P.2.2.1 16 k < P.2.2.1 20 p) ∧ (p < P.2.2.1 17 k → P.2.2.1 20 p < P.2.2.1 16 k ∧ ∀ t, P.2.2.2.1 22 p = some t → t < P.2.2.1 16 k)) ∧ (∀ k p p', k < P.1 15 → P.2.2.1 17 k ≤ p → p ≤ p' → p' < P.1 18 → (k + 1 < P.1 15 → p' < P.2.2.1 17 (k + 1)) → P.2.2.2.2 19 p = true → P.2.2.2.2 19 p' = true)
theorem SIc.ck {nv : Nat → Nat} {P : PS} (h : SIc nv P) : ∀ k, k < P.1 15 → P.2.2.1 7 (P.2.2.1 16 k) = 1 ∧ P.2.2.1 16 k < P.1 12 := h.1
theorem SIc.cm {nv : Nat → Nat} {P : PS} (h : SIc nv P) : ∀ k k', k < k' → k' < P.1 15 → P.2.2.1 16 k < P.2.2.1 16 k' := h.2.1
theorem SIc.f0 {nv : Nat → Nat} {P : PS} (h : SIc nv P) : 0 < P.1 15 → P.2.2.1 17 0 = 0 := h.2.2.1
theorem SIc.fm {nv : Nat → Nat} {P : PS} (h : SIc nv P) : ∀ k k', k ≤ k' → k' < P.1 15 → P.2.2.1 17 k ≤ P.2.2.1 17 k' ∧ P.2.2.1 17 k' ≤ P.1 18 := h.2.2.2.1
theorem SIc.pk {nv : Nat → Nat} {P : PS} (h : SIc nv P) : ∀ p, p < P.1 18 → P.2.2.1 7 (P.2.2.1 20 p) = 1 ∧ P.2.2.1 20 p < P.1 12 ∧ (∀ t, P.2.2.2.1 22 p = some t → P.2.2.1 20 p < t ∧ t < P.1 12 ∧ P.2.2.1 7 t = 2 ∧ P.2.2.1 21 p = pl_wd (nv t)) ∧ (P.2.2.2.1 22 p = none → P.2.2.1 21 p = 1) := h.2.2.2.2.1
theorem SIc.pm {nv : Nat → Nat} {P : PS} (h : SIc nv P) : ∀ p p', p < p' → p' < P.1 18 → P.2.2.1 20 p < P.2.2.1 20 p' ∧ ∀ t, P.2.2.2.1 22 p = some t → t < P.2.2.1 20 p' := h.2.2.2.2.2.1
theorem SIc.pc {nv : Nat → Nat} {P : PS} (h : SIc nv P) : ∀ k p, k < P.1 15 → p < P.1 18 → (P.2.2.1 17 k ≤ p → P.2.2.1 16 k < P.2.2.1 20 p) ∧ (p < P.2.2.1 17 k → P.2.2.1 20 p < P.2.2.1 16 k ∧ ∀ t, P.2.2.2.1 22 p = some t → t < P.2.2.1 16 k) := h.2.2.2.2.2.2.1
theorem SIc.po {nv : Nat → Nat} {P : PS} (h : SIc nv P) : ∀ k p p', k < P.1 15 → P.2.2.1 17 k ≤ p → p ≤ p' → p' < P.1 18 → (k + 1 < P.1 15 → p' < P.2.2.1 17 (k + 1)) → P.2.2.2.2 19 p = true → P.2.2.2.2 19 p' = true := h.2.2.2.2.2.2.2
/-- parts -/
def SIq (P : PS) : Prop := (0 < P.1 15 → P.2.2.1 23 0 = 0) ∧ (∀ k k', k ≤ k' → k' < P.1 15 → P.2.2.1 23 k ≤ P.2.2.1 23 k' ∧ P.2.2.1 23 k' ≤ P.1 24) ∧ (∀ p, p < P.1 24 → P.2.2.1 7 (P.2.2.1 25 p) = 1 ∧ P.2.2.1 25 p < P.1 12) ∧ (∀ p p', p < p' → p' < P.1 24 → P.2.2.1 25 p < P.2.2.1 25 p') ∧ (∀ k p, k < P.1 15 → p < P.1 24 → (P.2.2.1 23 k ≤ p → P.2.2.1 16 k < P.2.2.1 25 p) ∧ (p < P.2.2.1 23 k → P.2.2.1 25 p < P.2.2.1 16 k)) ∧ (∀ k p p', k < P.1 15 → p < P.1 18 → p' < P.1 24 → (k + 1 < P.1 15 → p < P.2.2.1 17 (k + 1)) → P.2.2.1 23 k ≤ p' → P.2.2.1 20 p < P.2.2.1 25 p' ∧ ∀ t, P.2.2.2.1 22 p = some t → t < P.2.2.1 25 p')
theorem SIq.f0 {P : PS} (h : SIq P) : 0 < P.1 15 → P.2.2.1 23 0 = 0 := h.1
theorem SIq.fm {P : PS} (h : SIq P) : ∀ k k', k ≤ k' → k' < P.1 15 → P.2.2.1 23 k ≤ P.2.2.1 23 k' ∧ P.2.2.1 23 k' ≤ P.1 24 := h.2.1
theorem SIq.qk {P : PS} (h : SIq P) : ∀ p, p < P.1 24 → P.2.2.1 7 (P.2.2.1 25 p) = 1 ∧ P.2.2.1 25 p < P.1 12 := h.2.2.1
theorem SIq.qm {P : PS} (h : SIq P) : ∀ p p', p < p' → p' < P.1 24 → P.2.2.1 25 p < P.2.2.1 25 p' := h.2.2.2.1
theorem SIq.qc {P : PS} (h : SIq P) : ∀ k p, k < P.1 15 → p < P.1 24 → (P.2.2.1 23 k ≤ p → P.2.2.1 16 k < P.2.2.1 25 p) ∧ (p < P.2.2.1 23 k → P.2.2.1 25 p < P.2.2.1 16 k) := h.2.2.2.2.1
theorem SIq.pq {P : PS} (h : SIq P) : ∀ k p p', k < P.1 15 → p < P.1 18 → p' < P.1 24 → (k + 1 < P.1 15 → p < P.2.2.1 17 (k + 1)) → P.2.2.1 23 k ≤ p' → P.2.2.1 20 p < P.2.2.1 25 p' ∧ ∀ t, P.2.2.2.1 22 p = some t → t < P.2.2.1 25 p' := h.2.2.2.2.2
/-- links -/
def SIl (tv : Nat → Int32) (P : PS) : Prop := (0 < P.1 24 → P.2.2.1 26 0 = 0) ∧ (∀ p p', p ≤ p' → p' < P.1 24 → P.2.2.1 26 p ≤ P.2.2.1 26 p' ∧ P.2.2.1 26 p' ≤ P.1 27) ∧ (∀ l, l < P.1 27 → P.2.2.1 7 (P.2.2.1 28 l) = 1 ∧ P.2.2.1 28 l < P.2.2.1 32 l ∧ P.2.2.1 32 l < P.1 12 ∧ (∀ z, P.2.2.2.1 29 l = some z → P.2.2.1 28 l < z ∧ z < P.2.2.1 32 l) ∧ (∀ z, P.2.2.2.1 33 l = some z → P.2.2.1 32 l < z ∧ z < P.1 12) ∧ (P.2.2.2.1 29 l = none → P.2.2.1 30 l = 0 ∧ P.2.2.1 31 l = 0) ∧ ((P.2.2.1 7 (P.2.2.1 32 l) = 1 ∧ (P.2.2.2.1 33 l = none → P.2.2.1 34 l = 0 ∧ P.2.2.1 35 l = 0)) ∨ (P.2.2.1 7 (P.2.2.1 32 l) = 5 ∧ (tv (P.2.2.1 32 l) = nI 4 ∨ tv (P.2.2.1 32 l) = nI 5) ∧ P.2.2.2.1 33 l = none))) ∧ (∀ l l', l < l' → l' < P.1 27 → P.2.2.1 32 l < P.2.2.1 28 l' ∧ ∀ z, P.2.2.2.1 33 l = some z → z < P.2.2.1 28 l') ∧ (∀ p l, p < P.1 24 → l < P.1 27 → (P.2.2.1 26 p ≤ l → P.2.2.1 25 p < P.2.2.1 28 l) ∧ (l < P.2.2.1 26 p → P.2.2.1 32 l < P.2.2.1 25 p ∧ ∀ z, P.2.2.2.1 33 l = some z → z < P.2.2.1 25 p)) ∧ (∀ k l, k < P.1 15 → l < P.1 27 → (P.2.2.1 23 k < P.1 24 → l < P.2.2.1 26 (P.2.2.1 23 k)) → P.2.2.1 32 l < P.2.2.1 16 k ∧ ∀ z, P.2.2.2.1 33 l = some z → z < P.2.2.1 16 k)
theorem SIl.l0 {tv : Nat → Int32} {P : PS} (h : SIl tv P) : 0 < P.1 24 → P.2.2.1 26 0 = 0 := h.1
theorem SIl.fm {tv : Nat → Int32} {P : PS} (h : SIl tv P) : ∀ p p', p ≤ p' → p' < P.1 24 → P.2.2.1 26 p ≤ P.2.2.1 26 p' ∧ P.2.2.1 26 p' ≤ P.1 27 := h.2.1
theorem SIl.lk {tv : Nat → Int32} {P : PS} (h : SIl tv P) : ∀ l, l < P.1 27 → P.2.2.1 7 (P.2.2.1 28 l) = 1 ∧ P.2.2.1 28 l < P.2.2.1 32 l ∧ P.2.2.1 32 l < P.1 12 ∧ (∀ z, P.2.2.2.1 29 l = some z → P.2.2.1 28 l < z ∧ z < P.2.2.1 32 l) ∧ (∀ z, P.2.2.2.1 33 l = some z → P.2.2.1 32 l < z ∧ z < P.1 12) ∧ (P.2.2.2.1 29 l = none → P.2.2.1 30 l = 0 ∧ P.2.2.1 31 l = 0) ∧ ((P.2.2.1 7 (P.2.2.1 32 l) = 1 ∧ (P.2.2.2.1 33 l = none → P.2.2.1 34 l = 0 ∧ P.2.2.1 35 l = 0)) ∨ (P.2.2.1 7 (P.2.2.1 32 l) = 5 ∧ (tv (P.2.2.1 32 l) = nI 4 ∨ tv (P.2.2.1 32 l) = nI 5) ∧ P.2.2.2.1 33 l = none)) := h.2.2.1
theorem SIl.lm {tv : Nat → Int32} {P : PS} (h : SIl tv P) : ∀ l l', l < l' → l' < P.1 27 → P.2.2.1 32 l < P.2.2.1 28 l' ∧ ∀ z, P.2.2.2.1 33 l = some z → z < P.2.2.1 28 l' := h.2.2.2.1
theorem SIl.ql {tv : Nat → Int32} {P : PS} (h : SIl tv P) : ∀ p l, p < P.1 24 → l < P.1 27 → (P.2.2.1 26 p ≤ l → P.2.2.1 25 p < P.2.2.1 28 l) ∧ (l < P.2.2.1 26 p → P.2.2.1 32 l < P.2.2.1 25 p ∧ ∀ z, P.2.2.2.1 33 l = some z → z < P.2.2.1 25 p) := h.2.2.2.2.1
theorem SIl.lc {tv : Nat → Int32} {P : PS} (h : SIl tv P) : ∀ k l, k < P.1 15 → l < P.1 27 → (P.2.2.1 23 k < P.1 24 → l < P.2.2.1 26 (P.2.2.1 23 k)) → P.2.2.1 32 l < P.2.2.1 16 k ∧ ∀ z, P.2.2.2.1 33 l = some z → z < P.2.2.1 16 k := h.2.2.2.2.2
/-- inner names -/
def SIi (ft : Nat → Int32) (P : PS) : Prop := (0 < P.1 15 → P.2.2.1 36 0 = 0) ∧ (∀ k k', k ≤ k' → k' < P.1 15 → P.2.2.1 36 k ≤ P.2.2.1 36 k' ∧ P.2.2.1 36 k' ≤ P.1 37) ∧ (∀ i, i < P.1 37 → P.2.2.1 7 (P.2.2.1 38 i) = 1 ∧ P.2.2.1 38 i < P.1 12) ∧ (∀ k l pe ie, k < P.1 15 → l < P.1 27 → (k + 1 < P.1 15 → pe = P.2.2.1 17 (k + 1)) → (k + 1 = P.1 15 → pe = P.1 18) → (k + 1 < P.1 15 → ie = P.2.2.1 36 (k + 1)) → (k + 1 = P.1 15 → ie = P.1 37) → (P.2.2.1 23 k < P.1 24 ∧ P.2.2.1 26 (P.2.2.1 23 k) ≤ l) → (k + 1 < P.1 15 → P.2.2.1 23 (k + 1) < P.1 24 → l < P.2.2.1 26 (P.2.2.1 23 (k + 1))) → P.2.2.1 7 (P.2.2.1 32 l) = 1 → m_find ft (P.2.2.1 8) (P.2.2.1 9) (P.2.2.1 20) (P.2.2.1 32 l) (pe - P.2.2.1 17 k) (P.2.2.1 17 k) ≠ none ∨ m_find ft (P.2.2.1 8) (P.2.2.1 9) (P.2.2.1 38) (P.2.2.1 32 l) (ie - P.2.2.1 36 k) (P.2.2.1 36 k) ≠ none)
theorem SIi.f0 {ft : Nat → Int32} {P : PS} (h : SIi ft P) : 0 < P.1 15 → P.2.2.1 36 0 = 0 := h.1
theorem SIi.fm {ft : Nat → Int32} {P : PS} (h : SIi ft P) : ∀ k k', k ≤ k' → k' < P.1 15 → P.2.2.1 36 k ≤ P.2.2.1 36 k' ∧ P.2.2.1 36 k' ≤ P.1 37 := h.2.1
theorem SIi.ik {ft : Nat → Int32} {P : PS} (h : SIi ft P) : ∀ i, i < P.1 37 → P.2.2.1 7 (P.2.2.1 38 i) = 1 ∧ P.2.2.1 38 i < P.1 12 := h.2.2.1
theorem SIi.ri {ft : Nat → Int32} {P : PS} (h : SIi ft P) : ∀ k l pe ie, k < P.1 15 → l < P.1 27 → (k + 1 < P.1 15 → pe = P.2.2.1 17 (k + 1)) → (k + 1 = P.1 15 → pe = P.1 18) → (k + 1 < P.1 15 → ie = P.2.2.1 36 (k + 1)) → (k + 1 = P.1 15 → ie = P.1 37) → (P.2.2.1 23 k < P.1 24 ∧ P.2.2.1 26 (P.2.2.1 23 k) ≤ l) → (k + 1 < P.1 15 → P.2.2.1 23 (k + 1) < P.1 24 → l < P.2.2.1 26 (P.2.2.1 23 (k + 1))) → P.2.2.1 7 (P.2.2.1 32 l) = 1 → m_find ft (P.2.2.1 8) (P.2.2.1 9) (P.2.2.1 20) (P.2.2.1 32 l) (pe - P.2.2.1 17 k) (P.2.2.1 17 k) ≠ none ∨ m_find ft (P.2.2.1 8) (P.2.2.1 9) (P.2.2.1 38) (P.2.2.1 32 l) (ie - P.2.2.1 36 k) (P.2.2.1 36 k) ≠ none := h.2.2.2
/-- a step ahead: nothing but the token at hand -/
theorem SIc_go {nv : Nat → Nat} {P X : PS} (h : SIc nv P) (e : X.2.2 = P.2.2) (e15 : X.1 15 = P.1 15) (e18 : X.1 18 = P.1 18) (h12 : P.1 12 ≤ X.1 12) : SIc nv X := by
  obtain ⟨h1, h2, h3, h4, h5, h6, h7, h8⟩ := h
  refine ⟨?_, ?_, ?_, ?_, ?_, ?_, ?_, ?_⟩ <;> rw [e] <;> (try rw [e15]) <;> (try rw [e18])
  · exact fun k hk => ⟨(h1 k hk).1, Nat.lt_of_lt_of_le (h1 k hk).2 h12⟩
  · exact h2
  · exact h3
  · exact h4
  · exact fun p hp => ⟨(h5 p hp).1, Nat.lt_of_lt_of_le (h5 p hp).2.1 h12, fun t ht => ⟨((h5 p hp).2.2.1 t ht).1, Nat.lt_of_lt_of_le ((h5 p hp).2.2.1 t ht).2.1 h12, ((h5 p hp).2.2.1 t ht).2.2⟩, (h5 p hp).2.2.2⟩
  · exact h6
  · exact h7
  · exact h8
theorem SIq_go {P X : PS} (h : SIq P) (e : X.2.2 = P.2.2) (e15 : X.1 15 = P.1 15) (e18 : X.1 18 = P.1 18) (e24 : X.1 24 = P.1 24) (h12 : P.1 12 ≤ X.1 12) : SIq X := by
  obtain ⟨h1, h2, h3, h4, h5, h6⟩ := h
  refine ⟨?_, ?_, ?_, ?_, ?_, ?_⟩ <;> rw [e] <;> (try rw [e15]) <;> (try rw [e24]) <;> (try rw [e18])
  · exact h1
  · exact h2
  · exact fun p hp => ⟨(h3 p hp).1, Nat.lt_of_lt_of_le (h3 p hp).2 h12⟩
  · exact h4
  · exact h5
  · exact h6
theorem SIl_go {tv : Nat → Int32} {P X : PS} (h : SIl tv P) (e : X.2.2 = P.2.2) (e15 : X.1 15 = P.1 15) (e24 : X.1 24 = P.1 24) (e27 : X.1 27 = P.1 27) (h12 : P.1 12 ≤ X.1 12) : SIl tv X := by
  obtain ⟨h1, h2, h3, h4, h5, h6⟩ := h
  refine ⟨?_, ?_, ?_, ?_, ?_, ?_⟩ <;> rw [e] <;> (try rw [e15]) <;> (try rw [e24]) <;> (try rw [e27])
  · exact h1
  · exact h2
  · intro l hl
    obtain ⟨a1, a2, a3, a4, a5, a6, a7⟩ := h3 l hl
    exact ⟨a1, a2, Nat.lt_of_lt_of_le a3 h12, a4, fun z hz => ⟨(a5 z hz).1, Nat.lt_of_lt_of_le (a5 z hz).2 h12⟩, a6, a7⟩
  · exact h4
  · exact h5
  · exact h6
theorem SIi_go {ft : Nat → Int32} {P X : PS} (h : SIi ft P) (e : X.2.2 = P.2.2) (e15 : X.1 15 = P.1 15) (e18 : X.1 18 = P.1 18) (e24 : X.1 24 = P.1 24) (e27 : X.1 27 = P.1 27) (e37 : X.1 37 = P.1 37) (h12 : P.1 12 ≤ X.1 12) : SIi ft X := by
  obtain ⟨h1, h2, h3, h4⟩ := h
  refine ⟨?_, ?_, ?_, ?_⟩ <;> rw [e] <;> (try rw [e15]) <;> (try rw [e37]) <;> (try rw [e24]) <;> (try rw [e27]) <;> (try rw [e18])
  · exact h1
  · exact h2
  · exact fun p hp => ⟨(h3 p hp).1, Nat.lt_of_lt_of_le (h3 p hp).2 h12⟩
  · exact h4
/-! A new chip -/
def chs (P X : PS) : Prop := (X.1 15 = P.1 15 + 1) ∧ (X.1 18 = P.1 18) ∧ (X.1 24 = P.1 24) ∧ (X.1 27 = P.1 27) ∧ (X.1 37 = P.1 37) ∧ (P.1 12 < X.1 12) ∧ (P.2.2.1 7 (P.1 12) = 1) ∧ (X.2.2.1 16 (P.1 15) = P.1 12) ∧ (X.2.2.1 17 (P.1 15) = P.1 18) ∧ (X.2.2.1 23 (P.1 15) = P.1 24) ∧ (X.2.2.1 36 (P.1 15) = P.1 37) ∧ (∀ k j, k ≠ 16 ∧ k ≠ 17 ∧ k ≠ 23 ∧ k ≠ 36 ∨ j ≠ P.1 15 → X.2.2.1 k j = P.2.2.1 k j) ∧ (X.2.2.2 = P.2.2.2) ∧ (P.1 15 = 0 → P.1 18 = 0 ∧ P.1 24 = 0 ∧ P.1 37 = 0)
theorem chs.e15 {P X : PS} (h : chs P X) : X.1 15 = P.1 15 + 1 := h.1
theorem chs.e18 {P X : PS} (h : chs P X) : X.1 18 = P.1 18 := h.2.1
theorem chs.e24 {P X : PS} (h : chs P X) : X.1 24 = P.1 24 := h.2.2.1
theorem chs.e27 {P X : PS} (h : chs P X) : X.1 27 = P.1 27 := h.2.2.2.1
theorem chs.e37 {P X : PS} (h : chs P X) : X.1 37 = P.1 37 := h.2.2.2.2.1
theorem chs.lt {P X : PS} (h : chs P X) : P.1 12 < X.1 12 := h.2.2.2.2.2.1
theorem chs.kd {P X : PS} (h : chs P X) : P.2.2.1 7 (P.1 12) = 1 := h.2.2.2.2.2.2.1
theorem chs.v16 {P X : PS} (h : chs P X) : X.2.2.1 16 (P.1 15) = P.1 12 := h.2.2.2.2.2.2.2.1
theorem chs.v17 {P X : PS} (h : chs P X) : X.2.2.1 17 (P.1 15) = P.1 18 := h.2.2.2.2.2.2.2.2.1
theorem chs.v23 {P X : PS} (h : chs P X) : X.2.2.1 23 (P.1 15) = P.1 24 := h.2.2.2.2.2.2.2.2.2.1
theorem chs.v36 {P X : PS} (h : chs P X) : X.2.2.1 36 (P.1 15) = P.1 37 := h.2.2.2.2.2.2.2.2.2.2.1
theorem chs.fr {P X : PS} (h : chs P X) : ∀ k j, k ≠ 16 ∧ k ≠ 17 ∧ k ≠ 23 ∧ k ≠ 36 ∨ j ≠ P.1 15 → X.2.2.1 k j = P.2.2.1 k j := h.2.2.2.2.2.2.2.2.2.2.2.1
theorem chs.o {P X : PS} (h : chs P X) : X.2.2.2 = P.2.2.2 := h.2.2.2.2.2.2.2.2.2.2.2.2.1
theorem chs.z {P X : PS} (h : chs P X) : P.1 15 = 0 → P.1 18 = 0 ∧ P.1 24 = 0 ∧ P.1 37 = 0 := h.2.2.2.2.2.2.2.2.2.2.2.2.2
theorem SIc_chip {nv : Nat → Nat} {P X : PS} (h : SIc nv P) (x : chs P X) : SIc nv X := by
  obtain ⟨h1, h2, h3, h4, h5, h6, h7, h8⟩ := h
  obtain ⟨e15, e18, e24, e27, e37, lt, kd, v16, v17, v23, v36, fr, o, z⟩ := x
  have a7 : ∀ j, X.2.2.1 7 j = P.2.2.1 7 j := fun j => fr 7 j (Or.inl (by decide))
  have a20 : ∀ j, X.2.2.1 20 j = P.2.2.1 20 j := fun j => fr 20 j (Or.inl (by decide))
  have a21 : ∀ j, X.2.2.1 21 j = P.2.2.1 21 j := fun j => fr 21 j (Or.inl (by decide))
  have a16 : ∀ j, j < P.1 15 → X.2.2.1 16 j = P.2.2.1 16 j := fun j hj => fr 16 j (Or.inr (by omega))
  have a17 : ∀ j, j < P.1 15 → X.2.2.1 17 j = P.2.2.1 17 j := fun j hj => fr 17 j (Or.inr (by omega))
  refine ⟨?_, ?_, ?_, ?_, ?_, ?_, ?_, ?_⟩
  · intro k hk
    rw [a7]
    by_cases q : k = P.1 15
    · subst q; rw [v16]; exact ⟨kd, lt⟩
    · rw [a16 k (by omega)]; have := h1 k (by omega); exact ⟨this.1, by omega⟩
  · intro k k' hk hk'
    by_cases q : k' = P.1 15
    · subst q; rw [v16, a16 k hk]; exact (h1 k hk).2
    · rw [a16 k (by omega), a16 k' (by omega)]; exact h2 k k' hk (by omega)
  · intro _
    by_cases q : P.1 15 = 0
    · have v := v17; rw [q] at v; rw [v]; exact (z q).1
    · rw [a17 0 (by omega)]; exact h3 (by omega)
  · intro k k' hk hk'
    rw [e18]
    by_cases q : k' = P.1 15
    · subst q; rw [v17]
      by_cases q' : k = P.1 15
      · subst q'; rw [v17]; omega
      · rw [a17 k (by omega)]; exact ⟨(h4 k k (Nat.le_refl _) (by omega)).2, Nat.le_refl _⟩
    · rw [a17 k (by omega), a17 k' (by omega)]; exact h4 k k' hk (by omega)
  · intro p hp
    rw [e18] at hp
    obtain ⟨b1, b2, b3, b4⟩ := h5 p hp
    rw [a20, a7, a21, o]
    exact ⟨b1, by omega, fun t ht => by rw [a7]; obtain ⟨c1, c2, c3⟩ := b3 t ht; exact ⟨c1, by omega, c3⟩, b4⟩
  · intro p p' hp hp'
    rw [e18] at hp'
    rw [a20, a20, o]; exact h6 p p' hp hp'
  · intro k p hk hp
    rw [e18] at hp
    rw [a20, o]
    by_cases q : k = P.1 15
    · subst q; rw [v16, v17]
      obtain ⟨b1, b2, b3, b4⟩ := h5 p hp
      exact ⟨fun z => by omega, fun _ => ⟨b2, fun t ht => (b3 t ht).2.1⟩⟩
    · rw [a16 k (by omega), a17 k (by omega)]; exact h7 k p (by omega) hp
  · intro k p p' hk hp hpp hp' hc ho
    rw [e18] at hp'
    rw [o] at ho ⊢
    by_cases q : k = P.1 15
    · subst q; rw [v17] at hp; omega
    · rw [a17 k (by omega)] at hp
      refine h8 k p p' (by omega) hp hpp hp' (fun z => ?_) ho
      have := hc (by omega)
      rwa [a17 (k + 1) z] at this
theorem SIq_chip {nv : Nat → Nat} {P X : PS} (hc : SIc nv P) (h : SIq P) (x : chs P X) : SIq X := by
  obtain ⟨h1, h2, h3, h4, h5, h6⟩ := h
  obtain ⟨e15, e18, e24, e27, e37, lt, kd, v16, v17, v23, v36, fr, o, z⟩ := x
  have a7 : ∀ j, X.2.2.1 7 j = P.2.2.1 7 j := fun j => fr 7 j (Or.inl (by decide))
  have a20 : ∀ j, X.2.2.1 20 j = P.2.2.1 20 j := fun j => fr 20 j (Or.inl (by decide))
  have a25 : ∀ j, X.2.2.1 25 j = P.2.2.1 25 j := fun j => fr 25 j (Or.inl (by decide))
  have a16 : ∀ j, j < P.1 15 → X.2.2.1 16 j = P.2.2.1 16 j := fun j hj => fr 16 j (Or.inr (by omega))
  have a17 : ∀ j, j < P.1 15 → X.2.2.1 17 j = P.2.2.1 17 j := fun j hj => fr 17 j (Or.inr (by omega))
  have a23 : ∀ j, j < P.1 15 → X.2.2.1 23 j = P.2.2.1 23 j := fun j hj => fr 23 j (Or.inr (by omega))
  refine ⟨?_, ?_, ?_, ?_, ?_, ?_⟩
  · intro _
    by_cases q : P.1 15 = 0
    · have v := v23; rw [q] at v; rw [v]; exact (z q).2.1
    · rw [a23 0 (by omega)]; exact h1 (by omega)
  · intro k k' hk hk'
    rw [e24]
    by_cases q : k' = P.1 15
    · subst q; rw [v23]
      by_cases q' : k = P.1 15
      · subst q'; rw [v23]; omega
      · rw [a23 k (by omega)]; exact ⟨(h2 k k (Nat.le_refl _) (by omega)).2, Nat.le_refl _⟩
    · rw [a23 k (by omega), a23 k' (by omega)]; exact h2 k k' hk (by omega)
  · intro p hp
    rw [e24] at hp
    rw [a25, a7]; have := h3 p hp; exact ⟨this.1, by omega⟩
  · intro p p' hp hp'
    rw [e24] at hp'
    rw [a25, a25]; exact h4 p p' hp hp'
  · intro k p hk hp
    rw [e24] at hp
    rw [a25]
    by_cases q : k = P.1 15
    · subst q; rw [v16, v23]; exact ⟨fun z => by omega, fun _ => (h3 p hp).2⟩
    · rw [a16 k (by omega), a23 k (by omega)]; exact h5 k p (by omega) hp
  · intro k p p' hk hp hp' hlt hq
    rw [e18] at hp
    rw [e24] at hp'
    rw [a20, a25, o]
    by_cases q : k = P.1 15
    · subst q; rw [v23] at hq; omega
    · rw [a23 k (by omega)] at hq
      refine h6 k p p' (by omega) hp hp' (fun z => ?_) hq
      have := hlt (by omega)
      rwa [a17 (k + 1) z] at this
theorem SIl_chip {tv : Nat → Int32} {P X : PS} (h : SIl tv P) (x : chs P X) : SIl tv X := by
  obtain ⟨h1, h2, h3, h4, h5, h6⟩ := h
  obtain ⟨e15, e18, e24, e27, e37, lt, kd, v16, v17, v23, v36, fr, o, z⟩ := x
  have ak : ∀ k, k ≠ 16 → k ≠ 17 → k ≠ 23 → k ≠ 36 → X.2.2.1 k = P.2.2.1 k := fun k a b c d => funext fun j => fr k j (Or.inl ⟨a, b, c, d⟩)
  have a16 : ∀ j, j < P.1 15 → X.2.2.1 16 j = P.2.2.1 16 j := fun j hj => fr 16 j (Or.inr (by omega))
  have a23 : ∀ j, j < P.1 15 → X.2.2.1 23 j = P.2.2.1 23 j := fun j hj => fr 23 j (Or.inr (by omega))
  refine ⟨?_, ?_, ?_, ?_, ?_, ?_⟩
  · rw [e24, ak 26 (by decide) (by decide) (by decide) (by decide)]; exact h1
  · rw [e24, e27, ak 26 (by decide) (by decide) (by decide) (by decide)]; exact h2
  · rw [e27, ak 7 (by decide) (by decide) (by decide) (by decide), ak 28 (by decide) (by decide) (by decide) (by decide), ak 30 (by decide) (by decide) (by decide) (by decide), ak 31 (by decide) (by decide) (by decide) (by decide), ak 32 (by decide) (by decide) (by decide) (by decide), ak 34 (by decide) (by decide) (by decide) (by decide), ak 35 (by decide) (by decide) (by decide) (by decide), o]
    intro l hl
    obtain ⟨b1, b2, b3, b4, b5, b6, b7⟩ := h3 l hl
    exact ⟨b1, b2, by omega, b4, fun z hz => ⟨(b5 z hz).1, by have := (b5 z hz).2; omega⟩, b6, b7⟩
  · rw [e27, ak 28 (by decide) (by decide) (by decide) (by decide), ak 32 (by decide) (by decide) (by decide) (by decide), o]; exact h4
  · rw [e24, e27, ak 25 (by decide) (by decide) (by decide) (by decide), ak 26 (by decide) (by decide) (by decide) (by decide), ak 28 (by decide) (by decide) (by decide) (by decide), ak 32 (by decide) (by decide) (by decide) (by decide), o]; exact h5
  · rw [e24, e27, ak 26 (by decide) (by decide) (by decide) (by decide), ak 32 (by decide) (by decide) (by decide) (by decide), o]
    intro k l hk hl hc
    by_cases q : k = P.1 15
    · subst q; rw [v16]
      obtain ⟨b1, b2, b3, b4, b5, b6, b7⟩ := h3 l hl
      exact ⟨b3, fun z hz => (b5 z hz).2⟩
    · rw [a16 k (by omega)]
      refine h6 k l (by omega) hl (fun z => ?_)
      rw [a23 k (by omega)] at hc
      exact hc z
theorem SIi_chip {ft : Nat → Int32} {P X : PS} (h : SIi ft P) (x : chs P X) : SIi ft X := by
  obtain ⟨h1, h2, h3, h4⟩ := h
  obtain ⟨e15, e18, e24, e27, e37, lt, kd, v16, v17, v23, v36, fr, o, z⟩ := x
  have ak : ∀ k, k ≠ 16 → k ≠ 17 → k ≠ 23 → k ≠ 36 → X.2.2.1 k = P.2.2.1 k := fun k a b c d => funext fun j => fr k j (Or.inl ⟨a, b, c, d⟩)
  have a17 : ∀ j, j < P.1 15 → X.2.2.1 17 j = P.2.2.1 17 j := fun j hj => fr 17 j (Or.inr (by omega))
  have a23 : ∀ j, j < P.1 15 → X.2.2.1 23 j = P.2.2.1 23 j := fun j hj => fr 23 j (Or.inr (by omega))
  have a36 : ∀ j, j < P.1 15 → X.2.2.1 36 j = P.2.2.1 36 j := fun j hj => fr 36 j (Or.inr (by omega))
  refine ⟨?_, ?_, ?_, ?_⟩
  · intro _
    by_cases q : P.1 15 = 0
    · have v := v36; rw [q] at v; rw [v]; exact (z q).2.2
    · rw [a36 0 (by omega)]; exact h1 (by omega)
  · intro k k' hk hk'
    rw [e37]
    by_cases q : k' = P.1 15
    · subst q; rw [v36]
      by_cases q' : k = P.1 15
      · subst q'; rw [v36]; omega
      · rw [a36 k (by omega)]; exact ⟨(h2 k k (Nat.le_refl _) (by omega)).2, Nat.le_refl _⟩
    · rw [a36 k (by omega), a36 k' (by omega)]; exact h2 k k' hk (by omega)
  · rw [e37, ak 7 (by decide) (by decide) (by decide) (by decide), ak 38 (by decide) (by decide) (by decide) (by decide)]
    exact fun i hi => ⟨(h3 i hi).1, by have := (h3 i hi).2; omega⟩
  · rw [e15, e18, e24, e27, e37, ak 7 (by decide) (by decide) (by decide) (by decide), ak 8 (by decide) (by decide) (by decide) (by decide), ak 9 (by decide) (by decide) (by decide) (by decide), ak 20 (by decide) (by decide) (by decide) (by decide), ak 26 (by decide) (by decide) (by decide) (by decide), ak 32 (by decide) (by decide) (by decide) (by decide), ak 38 (by decide) (by decide) (by decide) (by decide)]
    intro k l pe ie hk hl p1 p2 i1 i2 hq hx hkd
    by_cases q : k = P.1 15
    · subst q; rw [v23] at hq; omega
    · rw [a17 k (by omega), a36 k (by omega)]
      rw [a23 k (by omega)] at hq
      refine h4 k l pe ie (by omega) hl (fun z => ?_) (fun z => ?_) (fun z => ?_) (fun z => ?_) hq (fun z z' => ?_) hkd
      · rw [← a17 (k + 1) z]; exact p1 (by omega)
      · rw [← v17, ← z]; exact p1 (by omega)
      · rw [← a36 (k + 1) z]; exact i1 (by omega)
      · rw [← v36, ← z]; exact i1 (by omega)
      · have := hx (by omega)
        rw [a23 (k + 1) z] at this
        exact this z'
/-! A new pin -/
def pis (nv : Nat → Nat) (ob : Bool) (P X : PS) : Prop := (X.1 15 = P.1 15) ∧ (X.1 18 = P.1 18 + 1) ∧ (X.1 24 = P.1 24) ∧ (X.1 27 = P.1 27) ∧ (X.1 37 = P.1 37) ∧ (P.1 12 < X.1 12) ∧ (P.2.2.1 7 (P.1 12) = 1) ∧ (X.2.2.1 20 (P.1 18) = P.1 12) ∧ ((X.2.2.2.1 22 (P.1 18) = none ∧ X.2.2.1 21 (P.1 18) = 1) ∨ ∃ t, X.2.2.2.1 22 (P.1 18) = some t ∧ P.1 12 < t ∧ t < X.1 12 ∧ P.2.2.1 7 t = 2 ∧ X.2.2.1 21 (P.1 18) = pl_wd (nv t)) ∧ (X.2.2.2.2 19 (P.1 18) = ob) ∧ (∀ k j, k ≠ 20 ∧ k ≠ 21 ∨ j ≠ P.1 18 → X.2.2.1 k j = P.2.2.1 k j) ∧ (∀ k j, k ≠ 22 ∨ j ≠ P.1 18 → X.2.2.2.1 k j = P.2.2.2.1 k j) ∧ (∀ k j, k ≠ 19 ∨ j ≠ P.1 18 → X.2.2.2.2 k j = P.2.2.2.2 k j)
theorem pis.e15 {nv : Nat → Nat} {ob : Bool} {P X : PS} (h : pis nv ob P X) : X.1 15 = P.1 15 := h.1
theorem pis.e18 {nv : Nat → Nat} {ob : Bool} {P X : PS} (h : pis nv ob P X) : X.1 18 = P.1 18 + 1 := h.2.1
theorem pis.e24 {nv : Nat → Nat} {ob : Bool} {P X : PS} (h : pis nv ob P X) : X.1 24 = P.1 24 := h.2.2.1
theorem pis.e27 {nv : Nat → Nat} {ob : Bool} {P X : PS} (h : pis nv ob P X) : X.1 27 = P.1 27 := h.2.2.2.1
theorem pis.e37 {nv : Nat → Nat} {ob : Bool} {P X : PS} (h : pis nv ob P X) : X.1 37 = P.1 37 := h.2.2.2.2.1
theorem pis.lt {nv : Nat → Nat} {ob : Bool} {P X : PS} (h : pis nv ob P X) : P.1 12 < X.1 12 := h.2.2.2.2.2.1
theorem pis.kd {nv : Nat → Nat} {ob : Bool} {P X : PS} (h : pis nv ob P X) : P.2.2.1 7 (P.1 12) = 1 := h.2.2.2.2.2.2.1
theorem pis.v20 {nv : Nat → Nat} {ob : Bool} {P X : PS} (h : pis nv ob P X) : X.2.2.1 20 (P.1 18) = P.1 12 := h.2.2.2.2.2.2.2.1
theorem pis.v22 {nv : Nat → Nat} {ob : Bool} {P X : PS} (h : pis nv ob P X) : (X.2.2.2.1 22 (P.1 18) = none ∧ X.2.2.1 21 (P.1 18) = 1) ∨ ∃ t, X.2.2.2.1 22 (P.1 18) = some t ∧ P.1 12 < t ∧ t < X.1 12 ∧ P.2.2.1 7 t = 2 ∧ X.2.2.1 21 (P.1 18) = pl_wd (nv t) := h.2.2.2.2.2.2.2.2.1
theorem pis.v19 {nv : Nat → Nat} {ob : Bool} {P X : PS} (h : pis nv ob P X) : X.2.2.2.2 19 (P.1 18) = ob := h.2.2.2.2.2.2.2.2.2.1
theorem pis.fr {nv : Nat → Nat} {ob : Bool} {P X : PS} (h : pis nv ob P X) : ∀ k j, k ≠ 20 ∧ k ≠ 21 ∨ j ≠ P.1 18 → X.2.2.1 k j = P.2.2.1 k j := h.2.2.2.2.2.2.2.2.2.2.1
theorem pis.fo {nv : Nat → Nat} {ob : Bool} {P X : PS} (h : pis nv ob P X) : ∀ k j, k ≠ 22 ∨ j ≠ P.1 18 → X.2.2.2.1 k j = P.2.2.2.1 k j := h.2.2.2.2.2.2.2.2.2.2.2.1
theorem pis.fb {nv : Nat → Nat} {ob : Bool} {P X : PS} (h : pis nv ob P X) : ∀ k j, k ≠ 19 ∨ j ≠ P.1 18 → X.2.2.2.2 k j = P.2.2.2.2 k j := h.2.2.2.2.2.2.2.2.2.2.2.2
theorem SIc_pin {nv : Nat → Nat} {ob : Bool} {P X : PS} (h : SIc nv P) (x : pis nv ob P X) (h15 : 1 ≤ P.1 15) (hob : ob = false → ∀ p, P.2.2.1 17 (P.1 15 - 1) ≤ p → p < P.1 18 → P.2.2.2.2 19 p = false) : SIc nv X := by
  obtain ⟨h1, h2, h3, h4, h5, h6, h7, h8⟩ := h
  obtain ⟨e15, e18, e24, e27, e37, lt, kd, v20, v22, v19, fr, fo, fb⟩ := x
  have a7 : ∀ j, X.2.2.1 7 j = P.2.2.1 7 j := fun j => fr 7 j (Or.inl (by decide))
  have a16 : X.2.2.1 16 = P.2.2.1 16 := funext fun j => fr 16 j (Or.inl (by decide))
  have a17 : X.2.2.1 17 = P.2.2.1 17 := funext fun j => fr 17 j (Or.inl (by decide))
  have a20 : ∀ j, j < P.1 18 → X.2.2.1 20 j = P.2.2.1 20 j := fun j hj => fr 20 j (Or.inr (by omega))
  have a21 : ∀ j, j < P.1 18 → X.2.2.1 21 j = P.2.2.1 21 j := fun j hj => fr 21 j (Or.inr (by omega))
  have a22 : ∀ j, j < P.1 18 → X.2.2.2.1 22 j = P.2.2.2.1 22 j := fun j hj => fo 22 j (Or.inr (by omega))
  have a19 : ∀ j, j < P.1 18 → X.2.2.2.2 19 j = P.2.2.2.2 19 j := fun j hj => fb 19 j (Or.inr (by omega))
  refine ⟨?_, ?_, ?_, ?_, ?_, ?_, ?_, ?_⟩
  · rw [e15, a16]; exact fun k hk => by rw [a7]; exact ⟨(h1 k hk).1, by have := (h1 k hk).2; omega⟩
  · rw [e15, a16]; exact h2
  · rw [e15, a17]; exact h3
  · rw [e15, a17, e18]; exact fun k k' a b => ⟨(h4 k k' a b).1, by have := (h4 k k' a b).2; omega⟩
  · intro p hp
    by_cases q : p = P.1 18
    · subst q
      rw [v20, a7]
      refine ⟨kd, lt, fun t ht => ?_, fun hn => ?_⟩
      · rcases v22 with ⟨g, -⟩ | ⟨t', g1, g2, g3, g4, g5⟩
        · rw [g] at ht; cases ht
        · rw [g1] at ht; cases ht; rw [a7]; exact ⟨g2, g3, g4, g5⟩
      · rcases v22 with ⟨-, g⟩ | ⟨t', g1, -⟩
        · exact g
        · rw [g1] at hn; cases hn
    · have hp' : p < P.1 18 := by omega
      obtain ⟨b1, b2, b3, b4⟩ := h5 p hp'
      rw [a20 p hp', a21 p hp', a22 p hp', a7]
      exact ⟨b1, by omega, fun t ht => by rw [a7]; obtain ⟨c1, c2, c3⟩ := b3 t ht; exact ⟨c1, by omega, c3⟩, b4⟩
  · intro p p' hp hp'
    have hpl : p < P.1 18 := by omega
    rw [a20 p hpl, a22 p hpl]
    by_cases q : p' = P.1 18
    · subst q; rw [v20]
      obtain ⟨b1, b2, b3, b4⟩ := h5 p hpl
      exact ⟨b2, fun t ht => (b3 t ht).2.1⟩
    · rw [a20 p' (by omega)]; exact h6 p p' hp (by omega)
  · intro k p hk hp
    rw [e15] at hk
    rw [a16, a17]
    by_cases q : p = P.1 18
    · subst q; rw [v20]
      refine ⟨fun _ => (h1 k hk).2, fun hlt => ?_⟩
      have := (h4 k k (Nat.le_refl _) hk).2; omega
    · rw [a20 p (by omega), a22 p (by omega)]; exact h7 k p hk (by omega)
  · intro k p p' hk hp hpp hp' hc ho
    rw [e15] at hk hc
    rw [a17] at hp hc
    by_cases q : p' = P.1 18
    · subst q
      rw [v19]
      by_cases qk : k + 1 < P.1 15
      · have := hc qk
        have := (h4 (k + 1) (k + 1) (Nat.le_refl _) qk).2
        omega
      · have ek : k = P.1 15 - 1 := by omega
        by_cases qp : p = P.1 18
        · subst qp; rw [v19] at ho; exact ho
        · rw [a19 p (by omega)] at ho
          cases ob with
          | true => rfl
          | false =>
            have := hob rfl p (by rw [← ek]; exact hp) (by omega)
            rw [this] at ho; cases ho
    · rw [a19 p' (by omega)]
      rw [a19 p (by omega)] at ho
      exact h8 k p p' hk hp hpp (by omega) hc ho
theorem SIq_pin {nv : Nat → Nat} {ob : Bool} {P X : PS} (h : SIq P) (x : pis nv ob P X) (h15 : 1 ≤ P.1 15) (hq : P.1 24 = P.2.2.1 23 (P.1 15 - 1)) (hf : P.2.2.1 17 (P.1 15 - 1) ≤ P.1 18) (hm : ∀ k k', k ≤ k' → k' < P.1 15 → P.2.2.1 17 k ≤ P.2.2.1 17 k' ∧ P.2.2.1 17 k' ≤ P.1 18) : SIq X := by
  obtain ⟨h1, h2, h3, h4, h5, h6⟩ := h
  obtain ⟨e15, e18, e24, e27, e37, lt, kd, v20, v22, v19, fr, fo, fb⟩ := x
  have ak : ∀ k, k ≠ 20 → k ≠ 21 → X.2.2.1 k = P.2.2.1 k := fun k a b => funext fun j => fr k j (Or.inl ⟨a, b⟩)
  have a20 : ∀ j, j < P.1 18 → X.2.2.1 20 j = P.2.2.1 20 j := fun j hj => fr 20 j (Or.inr (by omega))
  have a22 : ∀ j, j < P.1 18 → X.2.2.2.1 22 j = P.2.2.2.1 22 j := fun j hj => fo 22 j (Or.inr (by omega))
  refine ⟨?_, ?_, ?_, ?_, ?_, ?_⟩
  · rw [e15, ak 23 (by decide) (by decide)]; exact h1
  · rw [e15, e24, ak 23 (by decide) (by decide)]; exact h2
  · rw [e24, ak 7 (by decide) (by decide), ak 25 (by decide) (by decide)]; exact fun p hp => ⟨(h3 p hp).1, by have := (h3 p hp).2; omega⟩
  · rw [e24, ak 25 (by decide) (by decide)]; exact h4
  · rw [e15, e24, ak 16 (by decide) (by decide), ak 23 (by decide) (by decide), ak 25 (by decide) (by decide)]; exact h5
  · intro k p p' hk hp hp' hlt hq'
    rw [e15] at hk hlt
    rw [e24] at hp'
    rw [ak 17 (by decide) (by decide)] at hlt
    rw [ak 23 (by decide) (by decide)] at hq'
    rw [ak 25 (by decide) (by decide)]
    by_cases q : p = P.1 18
    · exfalso
      subst q
      by_cases qk : k + 1 < P.1 15
      · have := hlt qk
        have := (hm (k + 1) (k + 1) (Nat.le_refl _) qk).2
        omega
      · have ek : k = P.1 15 - 1 := by omega
        rw [ek, ← hq] at hq'; omega
    · rw [a20 p (by omega), a22 p (by omega)]
      exact h6 k p p' hk (by omega) hp' hlt hq'
theorem SIl_pin {nv : Nat → Nat} {tv : Nat → Int32} {ob : Bool} {P X : PS} (h : SIl tv P) (x : pis nv ob P X) : SIl tv X := by
  obtain ⟨h1, h2, h3, h4, h5, h6⟩ := h
  obtain ⟨e15, e18, e24, e27, e37, lt, kd, v20, v22, v19, fr, fo, fb⟩ := x
  have ak : ∀ k, k ≠ 20 → k ≠ 21 → X.2.2.1 k = P.2.2.1 k := fun k a b => funext fun j => fr k j (Or.inl ⟨a, b⟩)
  have o29 : X.2.2.2.1 29 = P.2.2.2.1 29 := funext fun j => fo 29 j (Or.inl (by decide))
  have o33 : X.2.2.2.1 33 = P.2.2.2.1 33 := funext fun j => fo 33 j (Or.inl (by decide))
  refine ⟨?_, ?_, ?_, ?_, ?_, ?_⟩
  · rw [e24, ak 26 (by decide) (by decide)]; exact h1
  · rw [e24, e27, ak 26 (by decide) (by decide)]; exact h2
  · rw [e27, ak 7 (by decide) (by decide), ak 28 (by decide) (by decide), ak 30 (by decide) (by decide), ak 31 (by decide) (by decide), ak 32 (by decide) (by decide), ak 34 (by decide) (by decide), ak 35 (by decide) (by decide), o29, o33]
    intro l hl
    obtain ⟨b1, b2, b3, b4, b5, b6, b7⟩ := h3 l hl
    exact ⟨b1, b2, by omega, b4, fun z hz => ⟨(b5 z hz).1, by have := (b5 z hz).2; omega⟩, b6, b7⟩
  · rw [e27, ak 28 (by decide) (by decide), ak 32 (by decide) (by decide), o33]; exact h4
  · rw [e24, e27, ak 25 (by decide) (by decide), ak 26 (by decide) (by decide), ak 28 (by decide) (by decide), ak 32 (by decide) (by decide), o33]; exact h5
  · rw [e15, e24, e27, ak 16 (by decide) (by decide), ak 23 (by decide) (by decide), ak 26 (by decide) (by decide), ak 32 (by decide) (by decide), o33]; exact h6
theorem m_find_ext {ft : Nat → Int32} {ta ts a a' : Nat → Nat} {t : Nat} : ∀ k p, (∀ j, p ≤ j → j < p + k → a j = a' j) → m_find ft ta ts a t k p = m_find ft ta ts a' t k p
  | 0, _, _ => rfl
  | k + 1, p, h => by
    show (if m_like ft ta ts (a p) t = true then some p else m_find ft ta ts a t k (p + 1)) = (if m_like ft ta ts (a' p) t = true then some p else m_find ft ta ts a' t k (p + 1))
    rw [h p (Nat.le_refl _) (by omega), m_find_ext k (p + 1) (fun j h1 h2 => h j (by omega) (by omega))]
theorem m_find_more {ft : Nat → Int32} {ta ts a : Nat → Nat} {t : Nat} : ∀ k k' p, k ≤ k' → m_find ft ta ts a t k p ≠ none → m_find ft ta ts a t k' p = m_find ft ta ts a t k p
  | 0, _, _, _, h => absurd rfl h
  | k + 1, 0, _, hk, _ => absurd hk (by omega)
  | k + 1, k' + 1, p, hk, h => by
    have h : (if m_like ft ta ts (a p) t = true then some p else m_find ft ta ts a t k (p + 1)) ≠ none := h
    show (if m_like ft ta ts (a p) t = true then some p else m_find ft ta ts a t k' (p + 1)) = (if m_like ft ta ts (a p) t = true then some p else m_find ft ta ts a t k (p + 1))
    split
    · rfl
    · rename_i q
      rw [if_neg q] at h
      exact m_find_more k k' (p + 1) (by omega) h
theorem SIi_pin {nv : Nat → Nat} {ft : Nat → Int32} {ob : Bool} {P X : PS} (h : SIi ft P) (x : pis nv ob P X) (h15 : 1 ≤ P.1 15) (hq : P.1 24 = P.2.2.1 23 (P.1 15 - 1)) (hm : ∀ k k', k ≤ k' → k' < P.1 15 → P.2.2.1 17 k ≤ P.2.2.1 17 k' ∧ P.2.2.1 17 k' ≤ P.1 18) : SIi ft X := by
  obtain ⟨h1, h2, h3, h4⟩ := h
  obtain ⟨e15, e18, e24, e27, e37, lt, kd, v20, v22, v19, fr, fo, fb⟩ := x
  have ak : ∀ k, k ≠ 20 → k ≠ 21 → X.2.2.1 k = P.2.2.1 k := fun k a b => funext fun j => fr k j (Or.inl ⟨a, b⟩)
  have a20 : ∀ j, j < P.1 18 → X.2.2.1 20 j = P.2.2.1 20 j := fun j hj => fr 20 j (Or.inr (by omega))
  refine ⟨?_, ?_, ?_, ?_⟩
  · rw [e15, ak 36 (by decide) (by decide)]; exact h1
  · rw [e15, e37, ak 36 (by decide) (by decide)]; exact h2
  · rw [e37, ak 7 (by decide) (by decide), ak 38 (by decide) (by decide)]
    exact fun i hi => ⟨(h3 i hi).1, by have := (h3 i hi).2; omega⟩
  · rw [e15, e24, e27, e37, ak 7 (by decide) (by decide), ak 8 (by decide) (by decide), ak 9 (by decide) (by decide), ak 17 (by decide) (by decide), ak 23 (by decide) (by decide), ak 26 (by decide) (by decide), ak 32 (by decide) (by decide), ak 36 (by decide) (by decide), ak 38 (by decide) (by decide)]
    intro k l pe ie hk hl p1 p2 i1 i2 hqk hx hkd
    by_cases q : k + 1 < P.1 15
    · have e := p1 q
      have b := (hm (k + 1) (k + 1) (Nat.le_refl _) q).2
      rw [m_find_ext (a := X.2.2.1 20) (a' := P.2.2.1 20) (pe - P.2.2.1 17 k) (P.2.2.1 17 k) (fun j j1 j2 => a20 j (by omega))]
      exact h4 k l pe ie hk hl p1 (fun z => by omega) i1 i2 hqk hx hkd
    · have ek : k = P.1 15 - 1 := by omega
      rw [ek, ← hq] at hqk
      omega
/-! A new part, a new link -/
theorem SIc_fr {nv : Nat → Nat} {P X : PS} (h : SIc nv P) (e15 : X.1 15 = P.1 15) (e18 : X.1 18 = P.1 18) (h12 : P.1 12 ≤ X.1 12) (a7 : X.2.2.1 7 = P.2.2.1 7) (a16 : X.2.2.1 16 = P.2.2.1 16) (a17 : ∀ j, j < P.1 15 → X.2.2.1 17 j = P.2.2.1 17 j) (a20 : X.2.2.1 20 = P.2.2.1 20) (a21 : X.2.2.1 21 = P.2.2.1 21) (a22 : X.2.2.2.1 22 = P.2.2.2.1 22) (a19 : X.2.2.2.2 19 = P.2.2.2.2 19) : SIc nv X := by
  obtain ⟨h1, h2, h3, h4, h5, h6, h7, h8⟩ := h
  refine ⟨?_, ?_, ?_, ?_, ?_, ?_, ?_, ?_⟩
  · rw [e15, a7, a16]; exact fun k hk => ⟨(h1 k hk).1, Nat.lt_of_lt_of_le (h1 k hk).2 h12⟩
  · rw [e15, a16]; exact h2
  · rw [e15]; intro z; rw [a17 0 z]; exact h3 z
  · rw [e15, e18]; intro k k' a b; rw [a17 k (by omega), a17 k' b]; exact h4 k k' a b
  · rw [e18, a7, a20, a21, a22]
    exact fun p hp => ⟨(h5 p hp).1, Nat.lt_of_lt_of_le (h5 p hp).2.1 h12, fun t ht => ⟨((h5 p hp).2.2.1 t ht).1, Nat.lt_of_lt_of_le ((h5 p hp).2.2.1 t ht).2.1 h12, ((h5 p hp).2.2.1 t ht).2.2⟩, (h5 p hp).2.2.2⟩
  · rw [e18, a20, a22]; exact h6
  · rw [e15, e18, a16, a20, a22]; intro k p hk hp; rw [a17 k hk]; exact h7 k p hk hp
  · rw [e15, e18, a19]; intro k p p' hk hp hpp hp' hc ho
    rw [a17 k hk] at hp
    exact h8 k p p' hk hp hpp hp' (fun z => by rw [← a17 (k + 1) z]; exact hc z) ho
def pas (P X : PS) : Prop := (X.1 15 = P.1 15) ∧ (X.1 18 = P.1 18) ∧ (X.1 24 = P.1 24 + 1) ∧ (X.1 27 = P.1 27) ∧ (X.1 37 = P.1 37) ∧ (P.1 12 < X.1 12) ∧ (P.2.2.1 7 (P.1 12) = 1) ∧ (X.2.2.1 25 (P.1 24) = P.1 12) ∧ (X.2.2.1 26 (P.1 24) = P.1 27) ∧ (∀ k j, k ≠ 25 ∧ k ≠ 26 ∨ j ≠ P.1 24 → X.2.2.1 k j = P.2.2.1 k j) ∧ (X.2.2.2 = P.2.2.2) ∧ (P.1 24 = 0 → P.1 27 = 0)
theorem pas.e15 {P X : PS} (h : pas P X) : X.1 15 = P.1 15 := h.1
theorem pas.e18 {P X : PS} (h : pas P X) : X.1 18 = P.1 18 := h.2.1
theorem pas.e24 {P X : PS} (h : pas P X) : X.1 24 = P.1 24 + 1 := h.2.2.1
theorem pas.e27 {P X : PS} (h : pas P X) : X.1 27 = P.1 27 := h.2.2.2.1
theorem pas.e37 {P X : PS} (h : pas P X) : X.1 37 = P.1 37 := h.2.2.2.2.1
theorem pas.lt {P X : PS} (h : pas P X) : P.1 12 < X.1 12 := h.2.2.2.2.2.1
theorem pas.kd {P X : PS} (h : pas P X) : P.2.2.1 7 (P.1 12) = 1 := h.2.2.2.2.2.2.1
theorem pas.v25 {P X : PS} (h : pas P X) : X.2.2.1 25 (P.1 24) = P.1 12 := h.2.2.2.2.2.2.2.1
theorem pas.v26 {P X : PS} (h : pas P X) : X.2.2.1 26 (P.1 24) = P.1 27 := h.2.2.2.2.2.2.2.2.1
theorem pas.fr {P X : PS} (h : pas P X) : ∀ k j, k ≠ 25 ∧ k ≠ 26 ∨ j ≠ P.1 24 → X.2.2.1 k j = P.2.2.1 k j := h.2.2.2.2.2.2.2.2.2.1
theorem pas.o {P X : PS} (h : pas P X) : X.2.2.2 = P.2.2.2 := h.2.2.2.2.2.2.2.2.2.2.1
theorem pas.z {P X : PS} (h : pas P X) : P.1 24 = 0 → P.1 27 = 0 := h.2.2.2.2.2.2.2.2.2.2.2
theorem SIc_part {nv : Nat → Nat} {P X : PS} (h : SIc nv P) (x : pas P X) : SIc nv X := by
  obtain ⟨e15, e18, e24, e27, e37, lt, kd, v25, v26, fr, o, z⟩ := x
  have ak : ∀ k, k ≠ 25 → k ≠ 26 → X.2.2.1 k = P.2.2.1 k := fun k a b => funext fun j => fr k j (Or.inl ⟨a, b⟩)
  exact SIc_fr h e15 e18 (Nat.le_of_lt lt) (ak 7 (by decide) (by decide)) (ak 16 (by decide) (by decide)) (fun j _ => by rw [ak 17 (by decide) (by decide)]) (ak 20 (by decide) (by decide)) (ak 21 (by decide) (by decide)) (by rw [o]) (by rw [o])
theorem SIq_part {nv : Nat → Nat} {P X : PS} (hc : SIc nv P) (h : SIq P) (x : pas P X) : SIq X := by
  obtain ⟨h1, h2, h3, h4, h5, h6⟩ := h
  obtain ⟨e15, e18, e24, e27, e37, lt, kd, v25, v26, fr, o, z⟩ := x
  have ak : ∀ k, k ≠ 25 → k ≠ 26 → X.2.2.1 k = P.2.2.1 k := fun k a b => funext fun j => fr k j (Or.inl ⟨a, b⟩)
  have a25 : ∀ j, j < P.1 24 → X.2.2.1 25 j = P.2.2.1 25 j := fun j hj => fr 25 j (Or.inr (by omega))
  refine ⟨?_, ?_, ?_, ?_, ?_, ?_⟩
  · rw [e15, ak 23 (by decide) (by decide)]; exact h1
  · rw [e15, e24, ak 23 (by decide) (by decide)]; exact fun k k' a b => ⟨(h2 k k' a b).1, by have := (h2 k k' a b).2; omega⟩
  · rw [e24, ak 7 (by decide) (by decide)]; intro p hp
    by_cases q : p = P.1 24
    · subst q; rw [v25]; exact ⟨kd, lt⟩
    · rw [a25 p (by omega)]; have := h3 p (by omega); exact ⟨this.1, by omega⟩
  · rw [e24]; intro p p' hp hp'
    rw [a25 p (by omega)]
    by_cases q : p' = P.1 24
    · subst q; rw [v25]; exact (h3 p hp).2
    · rw [a25 p' (by omega)]; exact h4 p p' hp (by omega)
  · rw [e15, e24, ak 16 (by decide) (by decide), ak 23 (by decide) (by decide)]; intro k p hk hp
    by_cases q : p = P.1 24
    · subst q; rw [v25]; exact ⟨fun _ => (hc.ck k hk).2, fun hlt => by have := (h2 k k (Nat.le_refl _) hk).2; omega⟩
    · rw [a25 p (by omega)]; exact h5 k p hk (by omega)
  · rw [e15, e18, e24, ak 17 (by decide) (by decide), ak 20 (by decide) (by decide), ak 23 (by decide) (by decide), o]; intro k p p' hk hp hp' hlt hq
    by_cases q : p' = P.1 24
    · subst q; rw [v25]; exact ⟨(hc.pk p hp).2.1, fun t ht => ((hc.pk p hp).2.2.1 t ht).2.1⟩
    · rw [a25 p' (by omega)]; exact h6 k p p' hk hp (by omega) hlt hq
theorem SIl_part {nv : Nat → Nat} {tv : Nat → Int32} {P X : PS} (hc : SIc nv P) (hq : SIq P) (h : SIl tv P) (x : pas P X) : SIl tv X := by
  obtain ⟨h1, h2, h3, h4, h5, h6⟩ := h
  obtain ⟨e15, e18, e24, e27, e37, lt, kd, v25, v26, fr, o, z⟩ := x
  have ak : ∀ k, k ≠ 25 → k ≠ 26 → X.2.2.1 k = P.2.2.1 k := fun k a b => funext fun j => fr k j (Or.inl ⟨a, b⟩)
  have a25 : ∀ j, j < P.1 24 → X.2.2.1 25 j = P.2.2.1 25 j := fun j hj => fr 25 j (Or.inr (by omega))
  have a26 : ∀ j, j < P.1 24 → X.2.2.1 26 j = P.2.2.1 26 j := fun j hj => fr 26 j (Or.inr (by omega))
  refine ⟨?_, ?_, ?_, ?_, ?_, ?_⟩
  · intro _
    by_cases q : P.1 24 = 0
    · have v := v26; rw [q] at v; rw [v]; exact z q
    · rw [a26 0 (by omega)]; exact h1 (by omega)
  · rw [e24, e27]; intro p p' hp hp'
    by_cases q : p' = P.1 24
    · subst q; rw [v26]
      by_cases q' : p = P.1 24
      · subst q'; rw [v26]; omega
      · rw [a26 p (by omega)]; exact ⟨(h2 p p (Nat.le_refl _) (by omega)).2, Nat.le_refl _⟩
    · rw [a26 p (by omega), a26 p' (by omega)]; exact h2 p p' hp (by omega)
  · rw [e27, ak 7 (by decide) (by decide), ak 28 (by decide) (by decide), ak 30 (by decide) (by decide), ak 31 (by decide) (by decide), ak 32 (by decide) (by decide), ak 34 (by decide) (by decide), ak 35 (by decide) (by decide), o]
    intro l hl
    obtain ⟨b1, b2, b3, b4, b5, b6, b7⟩ := h3 l hl
    exact ⟨b1, b2, by omega, b4, fun z hz => ⟨(b5 z hz).1, by have := (b5 z hz).2; omega⟩, b6, b7⟩
  · rw [e27, ak 28 (by decide) (by decide), ak 32 (by decide) (by decide), o]; exact h4
  · rw [e24, e27, ak 28 (by decide) (by decide), ak 32 (by decide) (by decide), o]; intro p l hp hl
    by_cases q : p = P.1 24
    · subst q; rw [v25, v26]
      obtain ⟨b1, b2, b3, b4, b5, b6, b7⟩ := h3 l hl
      exact ⟨fun hle => by omega, fun _ => ⟨b3, fun z hz => (b5 z hz).2⟩⟩
    · rw [a25 p (by omega), a26 p (by omega)]; exact h5 p l (by omega) hl
  · rw [e15, e24, e27, ak 16 (by decide) (by decide), ak 23 (by decide) (by decide), ak 32 (by decide) (by decide), o]; intro k l hk hl hcd
    refine h6 k l hk hl (fun hlt => ?_)
    have := hcd (by omega)
    rwa [a26 _ hlt] at this
theorem SIi_part {nv : Nat → Nat} {ft : Nat → Int32} {tv : Nat → Int32} {P X : PS} (hq : SIq P) (hl : SIl tv P) (h : SIi ft P) (x : pas P X) : SIi ft X := by
  obtain ⟨h1, h2, h3, h4⟩ := h
  obtain ⟨e15, e18, e24, e27, e37, lt, kd, v25, v26, fr, o, z⟩ := x
  have ak : ∀ k, k ≠ 25 → k ≠ 26 → X.2.2.1 k = P.2.2.1 k := fun k a b => funext fun j => fr k j (Or.inl ⟨a, b⟩)
  have a26 : ∀ j, j < P.1 24 → X.2.2.1 26 j = P.2.2.1 26 j := fun j hj => fr 26 j (Or.inr (by omega))
  refine ⟨?_, ?_, ?_, ?_⟩
  · rw [e15, ak 36 (by decide) (by decide)]; exact h1
  · rw [e15, e37, ak 36 (by decide) (by decide)]; exact h2
  · rw [e37, ak 7 (by decide) (by decide), ak 38 (by decide) (by decide)]
    exact fun i hi => ⟨(h3 i hi).1, by have := (h3 i hi).2; omega⟩
  · rw [e15, e18, e24, e27, e37, ak 7 (by decide) (by decide), ak 8 (by decide) (by decide), ak 9 (by decide) (by decide), ak 17 (by decide) (by decide), ak 20 (by decide) (by decide), ak 23 (by decide) (by decide), ak 32 (by decide) (by decide), ak 36 (by decide) (by decide), ak 38 (by decide) (by decide)]
    intro k l pe ie hk hl' p1 p2 i1 i2 hqk hx hkd
    have qle := (hq.fm k k (Nat.le_refl _) hk).2
    have hlt : P.2.2.1 23 k < P.1 24 := by
      by_cases q : P.2.2.1 23 k = P.1 24
      · have := hqk.2; rw [q, v26] at this; omega
      · omega
    refine h4 k l pe ie hk hl' p1 p2 i1 i2 ⟨hlt, by rw [← a26 _ hlt]; exact hqk.2⟩ (fun z1 z2 => ?_) hkd
    have := hx z1 (by omega)
    rwa [a26 _ z2] at this
/-- a link more -/
theorem SIc_link {nv : Nat → Nat} {ft tv : Nat → Int32} {P X : PS} (h : SIc nv P) (x : lks ft tv P X) : SIc nv X := by
  obtain ⟨f1, f2, f3, f4, f5, f6, f7⟩ := x.frame
  have n : ∀ {k}, (k = 7 ∨ k = 16 ∨ k = 20 ∨ k = 21) → nl k := fun h => by unfold nl; omega
  have lt := x.lt
  have rt := x.rt
  refine SIc_fr h (f7 15 (by unfold nz; decide)) (f7 18 (by unfold nz; decide)) (by omega) (f5 7 (n (by omega))) (f5 16 (n (by omega))) (fun j hj => f3 17 j (Or.inl rfl) (by omega)) (f5 20 (n (by omega))) (f5 21 (n (by omega))) (funext fun j => f2 22 j (Or.inl (by decide))) (by rw [f6])
theorem SIq_link {ft tv : Nat → Int32} {P X : PS} (h : SIq P) (x : lks ft tv P X) : SIq X := by
  obtain ⟨f1, f2, f3, f4, f5, f6, f7⟩ := x.frame
  have lt := x.lt
  have rt := x.rt
  obtain ⟨h1, h2, h3, h4, h5, h6⟩ := h
  have e15 := f7 15 (by unfold nz; decide)
  have e18 := f7 18 (by unfold nz; decide)
  have e24 := f7 24 (by unfold nz; decide)
  have a7 := f5 7 (by unfold nl; decide)
  have a16 := f5 16 (by unfold nl; decide)
  have a20 := f5 20 (by unfold nl; decide)
  have a23 := f5 23 (by unfold nl; decide)
  have a25 := f5 25 (by unfold nl; decide)
  have a22 : X.2.2.2.1 22 = P.2.2.2.1 22 := funext fun j => f2 22 j (Or.inl (by decide))
  refine ⟨?_, ?_, ?_, ?_, ?_, ?_⟩
  · rw [e15, a23]; exact h1
  · rw [e15, e24, a23]; exact h2
  · rw [e24, a7, a25]; exact fun p hp => ⟨(h3 p hp).1, by have := (h3 p hp).2; omega⟩
  · rw [e24, a25]; exact h4
  · rw [e15, e24, a16, a23, a25]; exact h5
  · rw [e15, e18, e24, a20, a22, a23, a25]
    intro k p p' hk hp hp' hlt hq
    exact h6 k p p' hk hp hp' (fun z => by rw [← f3 17 (k + 1) (Or.inl rfl) (by omega)]; exact hlt z) hq
theorem SIl_link {ft tv : Nat → Int32} {P X : PS} (hq : SIq P) (h : SIl tv P) (x : lks ft tv P X) (h24 : 1 ≤ P.1 24) (hcq : 1 ≤ P.1 15 ∧ P.2.2.1 23 (P.1 15 - 1) < P.1 24) : SIl tv X := by
  obtain ⟨⟨f1, f2, f3, f4, f5, f6, f7⟩, z13, n27, kl, la, lr, l0, lt, rt, rr, kr⟩ := x
  obtain ⟨h1, h2, h3, h4, h5, h6⟩ := h
  have e15 := f7 15 (by unfold nz; decide)
  have e24 := f7 24 (by unfold nz; decide)
  have a7 := f5 7 (by unfold nl; decide)
  have a16 := f5 16 (by unfold nl; decide)
  have a23 := f5 23 (by unfold nl; decide)
  have a25 := f5 25 (by unfold nl; decide)
  have a26 := f5 26 (by unfold nl; decide)
  have v28 : ∀ l, l < P.1 27 → X.2.2.1 28 l = P.2.2.1 28 l := fun l hl => f1 28 l (by omega) (by omega)
  have v32 : ∀ l, l < P.1 27 → X.2.2.1 32 l = P.2.2.1 32 l := fun l hl => f1 32 l (by omega) (by omega)
  have v33 : ∀ l, l < P.1 27 → X.2.2.2.1 33 l = P.2.2.2.1 33 l := fun l hl => f2 33 l (Or.inr (by omega))
  refine ⟨?_, ?_, ?_, ?_, ?_, ?_⟩
  · rw [e24, a26]; exact h1
  · rw [e24, a26, n27]; exact fun p p' a b => ⟨(h2 p p' a b).1, by have := (h2 p p' a b).2; omega⟩
  · rw [n27, a7]; intro l hl
    by_cases q : l = P.1 27
    · subst q
      refine ⟨by rw [la]; exact kl, by rw [la]; exact lt, rt, by rw [la]; exact lr, rr, l0, ?_⟩
      rcases kr with ⟨k1, k2, -⟩ | ⟨k1, k2, k3, -⟩
      · exact Or.inl ⟨k1, k2⟩
      · exact Or.inr ⟨k1, k2, k3⟩
    · have hl' : l < P.1 27 := by omega
      obtain ⟨b1, b2, b3, b4, b5, b6, b7⟩ := h3 l hl'
      rw [v28 l hl', v32 l hl', v33 l hl', f1 30 l (by omega) q, f1 31 l (by omega) q, f1 34 l (by omega) q, f1 35 l (by omega) q, f2 29 l (Or.inr q)]
      exact ⟨b1, b2, by omega, b4, fun z hz => ⟨(b5 z hz).1, by have := (b5 z hz).2; omega⟩, b6, b7⟩
  · rw [n27]; intro l l' hl hl'
    have hlt : l < P.1 27 := by omega
    rw [v32 l hlt, v33 l hlt]
    by_cases q : l' = P.1 27
    · subst q; rw [la]
      obtain ⟨b1, b2, b3, b4, b5, b6, b7⟩ := h3 l hlt
      exact ⟨b3, fun z hz => (b5 z hz).2⟩
    · rw [v28 l' (by omega)]; exact h4 l l' hl (by omega)
  · rw [n27, e24, a25, a26]; intro p l hp hl
    by_cases q : l = P.1 27
    · subst q; rw [la]
      refine ⟨fun _ => (hq.qk p hp).2, fun hlt => ?_⟩
      have := (h2 p p (Nat.le_refl _) hp).2; omega
    · rw [v28 l (by omega), v32 l (by omega), v33 l (by omega)]; exact h5 p l hp (by omega)
  · rw [n27, e15, e24, a16, a23, a26]; intro k l hk hl hcd
    by_cases q : l = P.1 27
    · exfalso
      subst q
      have m := (hq.fm k (P.1 15 - 1) (by omega) (by omega)).1
      have hk24 : P.2.2.1 23 k < P.1 24 := by omega
      have := hcd hk24
      have := (h2 (P.2.2.1 23 k) (P.2.2.1 23 k) (Nat.le_refl _) hk24).2
      omega
    · rw [v32 l (by omega), v33 l (by omega)]; exact h6 k l hk (by omega) hcd
theorem m_find_last {ft : Nat → Int32} {ta ts a : Nat → Nat} {t : Nat} : ∀ k p, (∀ i, i < ts t → True) → m_like ft ta ts (a (p + k)) t = true → m_find ft ta ts a t (k + 1) p ≠ none
  | 0, p, _, h => by
    show (if m_like ft ta ts (a p) t = true then some p else _) ≠ none
    rw [if_pos (by simpa using h)]; simp
  | k + 1, p, hh, h => by
    show (if m_like ft ta ts (a p) t = true then some p else m_find ft ta ts a t (k + 1) (p + 1)) ≠ none
    split
    · simp
    · exact m_find_last k (p + 1) hh (by rw [show p + 1 + k = p + (k + 1) by omega]; exact h)
theorem m_like_self (ft : Nat → Int32) (ta ts : Nat → Nat) (t : Nat) : m_like ft ta ts t t = true := by
  unfold m_like
  rw [decide_eq_true rfl]
  have : ∀ k i, m_same ft (ta t) (ta t) k i true = true := by
    intro k
    induction k with
    | zero => intro i; rfl
    | succ k ih => intro i; show (if true = true then m_same ft (ta t) (ta t) k (i + 1) (decide (ft (ta t + i) = ft (ta t + i))) else true) = true; rw [if_pos rfl, decide_eq_true rfl]; exact ih (i + 1)
  exact this _ _
theorem SIi_link {nv : Nat → Nat} {ft tv : Nat → Int32} {P X : PS} (hc : SIc nv P) (hq : SIq P) (hl : SIl tv P) (h : SIi ft P) (x : lks ft tv P X) (hcq : 1 ≤ P.1 15 ∧ P.2.2.1 23 (P.1 15 - 1) < P.1 24) : SIi ft X := by
  obtain ⟨⟨f1, f2, f3, f4, f5, f6, f7⟩, z13, n27, kl, la, lr, l0, lt, rt, rr, kr⟩ := x
  obtain ⟨h1, h2, h3, h4⟩ := h
  have e15 := f7 15 (by unfold nz; decide)
  have e18 := f7 18 (by unfold nz; decide)
  have e24 := f7 24 (by unfold nz; decide)
  have a7 := f5 7 (by unfold nl; decide)
  have a8 := f5 8 (by unfold nl; decide)
  have a9 := f5 9 (by unfold nl; decide)
  have a20 := f5 20 (by unfold nl; decide)
  have a23 := f5 23 (by unfold nl; decide)
  have a26 := f5 26 (by unfold nl; decide)
  have v32 : ∀ l, l < P.1 27 → X.2.2.1 32 l = P.2.2.1 32 l := fun l hl => f1 32 l (by omega) (by omega)
  have v38 : ∀ i, i < P.1 37 → X.2.2.1 38 i = P.2.2.1 38 i := fun i hi => f4 i (by omega)
  have n37 : (X.1 37 = P.1 37 + 1 ∧ P.2.2.1 7 (X.2.2.1 32 (P.1 27)) = 1 ∧ X.2.2.1 38 (P.1 37) = X.2.2.1 32 (P.1 27)) ∨ X.1 37 = P.1 37 := by
    rcases kr with ⟨k1, k2, k3, k4, k5⟩ | ⟨k1, k2, k3, k4, k5⟩
    · rcases k5 _ rfl _ rfl with ⟨-, -, g1, g2, -⟩ | ⟨-, g1, -⟩
      · exact Or.inl ⟨g1, k1, g2⟩
      · exact Or.inr g1
    · exact Or.inr k4
  refine ⟨?_, ?_, ?_, ?_⟩
  · rw [e15]; intro z; rw [f3 36 0 (Or.inr rfl) (by omega)]; exact h1 z
  · rw [e15]; intro k k' a b
    rw [f3 36 k (Or.inr rfl) (by omega), f3 36 k' (Or.inr rfl) (by omega)]
    have := h2 k k' a b
    exact ⟨this.1, by rcases n37 with ⟨g, -⟩ | g <;> omega⟩
  · rw [a7]; intro i hi
    by_cases q : i < P.1 37
    · rw [v38 i q]; have := h3 i q; exact ⟨this.1, by omega⟩
    · rcases n37 with ⟨g1, g2, g3⟩ | g
      · have : i = P.1 37 := by omega
        subst this; rw [g3]; exact ⟨g2, rt⟩
      · omega
  · rw [e15, e18, e24, n27, a7, a8, a9, a20, a23, a26]
    intro k l pe ie hk hl' p1 p2 i1 i2 hqk hx hkd
    rw [f3 17 k (Or.inl rfl) (by omega), f3 36 k (Or.inr rfl) (by omega)]
    by_cases q : l = P.1 27
    · subst q
      -- the link at hand: it is of the last chip
      have ek : k + 1 = P.1 15 := by
        by_cases q1 : k + 1 < P.1 15
        · exfalso
          have m := (hq.fm (k + 1) (P.1 15 - 1) (by omega) (by omega)).1
          have hk24 : P.2.2.1 23 (k + 1) < P.1 24 := by omega
          have := hx q1 hk24
          have := (hl.fm _ _ (Nat.le_refl _) hk24).2
          omega
        · omega
      have ekk : k = P.1 15 - 1 := by omega
      rcases kr with ⟨k1, k2, k3, k4, k5⟩ | ⟨k1, -⟩
      · rw [p2 ek, i2 ek]
        have b := (h2 k k (Nat.le_refl _) hk).2
        rcases k5 _ rfl _ rfl with ⟨g1, g2, g3, g4, -⟩ | ⟨g1, g2, g3⟩
        · right
          rw [g3, show P.1 37 + 1 - P.2.2.1 36 k = (P.1 37 - P.2.2.1 36 k) + 1 by omega]
          refine m_find_last _ _ (fun _ _ => trivial) ?_
          rw [show P.2.2.1 36 k + (P.1 37 - P.2.2.1 36 k) = P.1 37 by omega, g4]
          exact m_like_self _ _ _ _
        · rw [← ekk] at g1
          rw [g2, g3]
          by_cases z : m_find ft (P.2.2.1 8) (P.2.2.1 9) (P.2.2.1 20) (X.2.2.1 32 (P.1 27)) (P.1 18 - P.2.2.1 17 k) (P.2.2.1 17 k) = none
          · exact Or.inr (fun z2 => g1 ⟨z, z2⟩)
          · exact Or.inl z
      · rw [k1] at hkd; cases hkd
    · have hll : l < P.1 27 := by omega
      rw [v32 l hll] at hkd ⊢
      have ie' : ∃ ie0, ((k + 1 < P.1 15 → ie0 = P.2.2.1 36 (k + 1)) ∧ (k + 1 = P.1 15 → ie0 = P.1 37)) ∧ ie0 ≤ ie ∧ (∀ j, j < ie0 → j < P.1 37) := by
        by_cases q1 : k + 1 < P.1 15
        · refine ⟨ie, ⟨fun _ => by rw [← f3 36 (k + 1) (Or.inr rfl) (by omega)]; exact i1 q1, fun z => by omega⟩, Nat.le_refl _, fun j hj => ?_⟩
          have e := i1 q1
          rw [f3 36 (k + 1) (Or.inr rfl) (by omega)] at e
          have := (h2 (k + 1) (k + 1) (Nat.le_refl _) q1).2
          omega
        · refine ⟨P.1 37, ⟨fun z => absurd z q1, fun _ => rfl⟩, ?_, fun j hj => hj⟩
          rw [i2 (by omega)]
          rcases n37 with ⟨g, -⟩ | g <;> omega
      obtain ⟨ie0, ⟨j1, j2⟩, j3, j4⟩ := ie'
      rcases h4 k l pe ie0 hk hll (fun z => by rw [← f3 17 (k + 1) (Or.inl rfl) (by omega)]; exact p1 z) p2 j1 j2 hqk hx hkd with g | g
      · exact Or.inl g
      · right
        have b := (h2 k k (Nat.le_refl _) hk).2
        have e1 : m_find ft (P.2.2.1 8) (P.2.2.1 9) (X.2.2.1 38) (P.2.2.1 32 l) (ie0 - P.2.2.1 36 k) (P.2.2.1 36 k) = m_find ft (P.2.2.1 8) (P.2.2.1 9) (P.2.2.1 38) (P.2.2.1 32 l) (ie0 - P.2.2.1 36 k) (P.2.2.1 36 k) := m_find_ext _ _ (fun j a b => v38 j (j4 j (by omega)))
        rw [m_find_more (ie0 - P.2.2.1 36 k) (ie - P.2.2.1 36 k) (P.2.2.1 36 k) (by omega) (by rw [e1]; exact g), e1]
        exact g
/-! The rows along the whole text -/
def SI (ft tv : Nat → Int32) (nv : Nat → Nat) (P : PS) : Prop := SIc nv P ∧ SIq P ∧ SIl tv P ∧ SIi ft P ∧ (P.1 24 = 0 → P.1 27 = 0)
theorem SI_go {ft tv : Nat → Int32} {nv : Nat → Nat} {P X : PS} (h : SI ft tv nv P) (e : X.2.2 = P.2.2) (ez : ∀ k, k ≠ 12 → k ≠ 13 → k ≠ 14 → X.1 k = P.1 k) (h12 : P.1 12 ≤ X.1 12) : SI ft tv nv X :=
  have e15 := ez 15 (by decide) (by decide) (by decide)
  have e18 := ez 18 (by decide) (by decide) (by decide)
  have e24 := ez 24 (by decide) (by decide) (by decide)
  have e27 := ez 27 (by decide) (by decide) (by decide)
  have e37 := ez 37 (by decide) (by decide) (by decide)
  ⟨SIc_go h.1 e e15 e18 h12, SIq_go h.2.1 e e15 e18 e24 h12, SIl_go h.2.2.1 e e15 e24 e27 h12, SIi_go h.2.2.2.1 e e15 e18 e24 e27 e37 h12, fun z => by rw [e27]; exact h.2.2.2.2 (by rw [← e24]; exact z)⟩
theorem SI_g {ft tv : Nat → Int32} {nv : Nat → Nat} {P : PS} (h : SI ft tv nv P) : SI ft tv nv (sp_go P) := SI_go h rfl (fun k a b c => zk_go a b c) (z12_go P)
theorem SI_sign {ft tv : Nat → Int32} {nv : Nat → Nat} {P : PS} {c : Int32} (h : SI ft tv nv P) : SI ft tv nv (sp_sign tv c P) := SI_go h (by rw [ar_sign]) (fun k a b c => zk_sign a b c) (z12_sign _ _ _)
theorem SI_word {ft tv : Nat → Int32} {nv : Nat → Nat} {P : PS} {c : Int32} (h : SI ft tv nv P) : SI ft tv nv (sp_word tv c P) := SI_go h (by rw [ar_word]) (fun k a b c => zk_word a b c) (z12_word _ _ _)
/-- a pin that was read -/
theorem pl_pis {tv : Nat → Int32} {nv : Nat → Nat} {ob : Bool} {P : PS} (hz : P.1 13 = 0) (hk : P.2.2.1 7 (P.1 12) = 1) (h0 : (pl_one tv nv ob P).1 13 = 0) : pis nv ob P (pl_one tv nv ob P) := by
  have z1 : (pl_q1 ob P).1 13 = 0 := hz
  have n1 : (pl_q1 ob P).1 12 = P.1 12 + 1 := if_pos hz
  have e18 : (pl_q1 ob P).1 18 = P.1 18 := rfl
  have q20 : ∀ j, (pl_q1 ob P).2.2.1 20 j = if j = P.1 18 then P.1 12 else P.2.2.1 20 j := fun j => rfl
  have q21 : ∀ j, (pl_q1 ob P).2.2.1 21 j = if j = P.1 18 then 1 else P.2.2.1 21 j := fun j => rfl
  have q22 : ∀ j, (pl_q1 ob P).2.2.2.1 22 j = if j = P.1 18 then none else P.2.2.2.1 22 j := fun j => rfl
  have q19 : ∀ j, (pl_q1 ob P).2.2.2.2 19 j = if j = P.1 18 then ob else P.2.2.2.2 19 j := fun j => rfl
  have qk : ∀ k, k ≠ 20 → k ≠ 21 → (pl_q1 ob P).2.2.1 k = P.2.2.1 k := fun k a b => pl_q1_a a b
  have qo : ∀ k, k ≠ 22 → (pl_q1 ob P).2.2.2.1 k = P.2.2.2.1 k := by
    intro k h
    show (if k = 22 then _ else P.2.2.2.1 k) = _
    rw [if_neg h]
  have qb : ∀ k, k ≠ 19 → (pl_q1 ob P).2.2.2.2 k = P.2.2.2.2 k := by
    intro k h
    show (if k = 19 then _ else P.2.2.2.2 k) = _
    rw [if_neg h]
  unfold pl_one at h0 ⊢
  by_cases hs : sg tv (nI 91) (pl_q1 ob P) = true
  · rw [if_pos hs] at h0 ⊢
    have h3 : (pl_q3 tv ob P).1 13 = 0 := by
      by_cases q : (pl_q3 tv ob P).1 13 = 0
      · exact q
      · rw [if_neg q] at h0; exact h0
    rw [if_pos h3]
    have f3 := f_sign h3
    have f2 := f_number (P := sp_go (pl_q1 ob P)) f3.1
    have g1 : (sp_go (pl_q1 ob P)).1 12 = P.1 12 + 2 := by
      show (if (pl_q1 ob P).1 13 = 0 then (pl_q1 ob P).1 12 + 1 else _) = _
      rw [if_pos z1, n1]
    have g2 : (pl_q2 ob P).1 12 = P.1 12 + 3 := by
      show (sp_number (sp_go (pl_q1 ob P))).1 12 = _
      rw [f2.2.2, g1]
    have g3 : (pl_q3 tv ob P).1 12 = P.1 12 + 4 := by
      unfold pl_q3
      rw [f3.2.2]
      show (if (pl_q2 ob P).1 13 = 0 then (pl_q2 ob P).1 12 + 1 else _) = _
      rw [if_pos f3.1, g2]
    have k2 : P.2.2.1 7 (P.1 12 + 2) = 2 := by
      have := f2.2.1
      rw [g1] at this
      rw [← qk 7 (by decide) (by decide)]; exact this
    have s2 : (pl_q2 ob P).2 = (pl_q1 ob P).2 := by unfold pl_q2; rw [ar_number]; rfl
    have s3 : (pl_q3 tv ob P).2.2.1 = (pl_q1 ob P).2.2.1 := by
      unfold pl_q3; rw [ar_sign]; show (pl_q2 ob P).2.2.1 = _; rw [s2]
    have s3b : (pl_q3 tv ob P).2.2.2.2 = (pl_q1 ob P).2.2.2.2 := by
      unfold pl_q3; rw [ar_sign]; show (pl_q2 ob P).2.2.2.2 = _; rw [s2]
    have s3o : ∀ k j, (pl_q3 tv ob P).2.2.2.1 k j = if k = 22 ∧ j = P.1 18 then some (P.1 12 + 2) else (pl_q1 ob P).2.2.2.1 k j := by
      intro k j
      unfold pl_q3; rw [ar_sign]
      show (if k = 22 then (fun i => if i = (sp_go (pl_q1 ob P)).1 18 then some ((pl_q2 ob P).1 12 - 1) else (pl_q2 ob P).2.2.2.1 22 i) else (pl_q2 ob P).2.2.2.1 k) j = _
      by_cases q : k = 22
      · subst q
        rw [if_pos rfl]
        show (if j = P.1 18 then some ((pl_q2 ob P).1 12 - 1) else (pl_q2 ob P).2.2.2.1 22 j) = _
        by_cases q' : j = P.1 18
        · rw [if_pos q', if_pos ⟨rfl, q'⟩, g2]; rfl
        · rw [if_neg q', if_neg (fun z => q' z.2), s2]
      · rw [if_neg q, if_neg (fun z => q z.1), s2]
    have e18' : (pl_q3 tv ob P).1 18 = P.1 18 := pl_q3_k (by decide) (by decide) (by decide)
    have x21 : ∀ j, (zs (pl_q4 tv nv ob P) 18 ((pl_q4 tv nv ob P).1 18 + 1)).2.2.1 21 j = if j = P.1 18 then pl_wd (nv (P.1 12 + 2)) else P.2.2.1 21 j := by
      intro j
      show (if j = (pl_q3 tv ob P).1 18 then pl_wd (nv ((pl_q2 ob P).1 12 - 1)) else (pl_q3 tv ob P).2.2.1 21 j) = _
      rw [e18', g2, s3, q21]
      split <;> rfl
    have xk : ∀ k, k ≠ 21 → (zs (pl_q4 tv nv ob P) 18 ((pl_q4 tv nv ob P).1 18 + 1)).2.2.1 k = (pl_q1 ob P).2.2.1 k := by
      intro k h
      show (if k = 21 then _ else (pl_q3 tv ob P).2.2.1 k) = _
      rw [if_neg h, s3]
    have x18 : (zs (pl_q4 tv nv ob P) 18 ((pl_q4 tv nv ob P).1 18 + 1)).1 18 = P.1 18 + 1 := by
      show (pl_q3 tv ob P).1 18 + 1 = _; rw [e18']
    have xz : ∀ k, k ≠ 12 → k ≠ 13 → k ≠ 14 → k ≠ 18 → (zs (pl_q4 tv nv ob P) 18 ((pl_q4 tv nv ob P).1 18 + 1)).1 k = P.1 k := by
      intro k a b c d
      show (if k = 18 then _ else (pl_q3 tv ob P).1 k) = _
      rw [if_neg d]; exact pl_q3_k a b c
    have x12 : (zs (pl_q4 tv nv ob P) 18 ((pl_q4 tv nv ob P).1 18 + 1)).1 12 = P.1 12 + 4 := g3
    have xo : (zs (pl_q4 tv nv ob P) 18 ((pl_q4 tv nv ob P).1 18 + 1)).2.2.2.1 = (pl_q3 tv ob P).2.2.2.1 := rfl
    have xb : (zs (pl_q4 tv nv ob P) 18 ((pl_q4 tv nv ob P).1 18 + 1)).2.2.2.2 = (pl_q1 ob P).2.2.2.2 := s3b
    refine ⟨xz 15 (by decide) (by decide) (by decide) (by decide), x18, xz 24 (by decide) (by decide) (by decide) (by decide), xz 27 (by decide) (by decide) (by decide) (by decide), xz 37 (by decide) (by decide) (by decide) (by decide), by rw [x12]; omega, hk, ?_, Or.inr ⟨P.1 12 + 2, ?_, by omega, by rw [x12]; omega, k2, ?_⟩, ?_, ?_, ?_, ?_⟩
    · rw [xk 20 (by decide), q20, if_pos rfl]
    · rw [xo, s3o, if_pos ⟨rfl, rfl⟩]
    · rw [x21, if_pos rfl]
    · rw [xb, q19, if_pos rfl]
    · intro k j h
      by_cases q : k = 21
      · subst q; rw [x21, if_neg (by rcases h with h | h; exact absurd rfl h.2; exact h)]
      · rw [xk k q]
        by_cases q' : k = 20
        · subst q'; rw [q20, if_neg (by rcases h with h | h; exact absurd rfl h.1; exact h)]
        · rw [qk k q' q]
    · intro k j h
      rw [xo, s3o, if_neg (by rintro ⟨z1, z2⟩; rcases h with h | h; exact h z1; exact h z2)]
      by_cases q : k = 22
      · subst q; rw [q22, if_neg (by rcases h with h | h; exact absurd rfl h; exact h)]
      · rw [qo k q]
    · intro k j h
      rw [xb]
      by_cases q : k = 19
      · subst q; rw [q19, if_neg (by rcases h with h | h; exact absurd rfl h; exact h)]
      · rw [qb k q]
  · rw [if_neg hs]
    refine ⟨rfl, rfl, rfl, rfl, rfl, by show P.1 12 < (pl_q1 ob P).1 12; omega, hk, ?_, Or.inl ⟨?_, ?_⟩, ?_, ?_, ?_, ?_⟩
    · show (pl_q1 ob P).2.2.1 20 (P.1 18) = _; rw [q20, if_pos rfl]
    · show (pl_q1 ob P).2.2.2.1 22 (P.1 18) = _; rw [q22, if_pos rfl]
    · show (pl_q1 ob P).2.2.1 21 (P.1 18) = _; rw [q21, if_pos rfl]
    · show (pl_q1 ob P).2.2.2.2 19 (P.1 18) = _; rw [q19, if_pos rfl]
    · intro k j h
      show (pl_q1 ob P).2.2.1 k j = _
      by_cases q : k = 21
      · subst q; rw [q21, if_neg (by rcases h with h | h; exact absurd rfl h.2; exact h)]
      · by_cases q' : k = 20
        · subst q'; rw [q20, if_neg (by rcases h with h | h; exact absurd rfl h.1; exact h)]
        · rw [qk k q' q]
    · intro k j h
      show (pl_q1 ob P).2.2.2.1 k j = _
      by_cases q : k = 22
      · subst q; rw [q22, if_neg (by rcases h with h | h; exact absurd rfl h; exact h)]
      · rw [qo k q]
    · intro k j h
      show (pl_q1 ob P).2.2.2.2 k j = _
      by_cases q : k = 19
      · subst q; rw [q19, if_neg (by rcases h with h | h; exact absurd rfl h; exact h)]
      · rw [qb k q]
/-- the pins' list keeps what the rows tell -/
theorem pl_SI {ft tv : Nat → Int32} {nv : Nat → Nat} {ob : Bool} : ∀ (k : Nat) (P : PS), SI ft tv nv P → P.1 13 = 0 → 1 ≤ P.1 15 → P.1 24 = P.2.2.1 23 (P.1 15 - 1) → (ob = false → ∀ p, P.2.2.1 17 (P.1 15 - 1) ≤ p → p < P.1 18 → P.2.2.2.2 19 p = false) → (pl_loop tv nv ob k P).1 13 = 0 →
    SI ft tv nv (pl_loop tv nv ob k P) ∧ (pl_loop tv nv ob k P).1 15 = P.1 15 ∧ (pl_loop tv nv ob k P).1 24 = P.1 24 ∧ (pl_loop tv nv ob k P).2.2.1 23 = P.2.2.1 23 ∧ (pl_loop tv nv ob k P).2.2.1 17 = P.2.2.1 17 ∧ (k = 0 ∨ P.1 18 < (pl_loop tv nv ob k P).1 18) ∧ P.1 18 ≤ (pl_loop tv nv ob k P).1 18 ∧ (∀ p, p < P.1 18 → (pl_loop tv nv ob k P).2.2.2.2 19 p = P.2.2.2.2 19 p) ∧ (∀ p, P.1 18 ≤ p → p < (pl_loop tv nv ob k P).1 18 → (pl_loop tv nv ob k P).2.2.2.2 19 p = ob)
  | 0, P, h, _, _, _, _, _ => ⟨h, rfl, rfl, rfl, rfl, Or.inl rfl, Nat.le_refl _, fun _ _ => rfl, fun p h1 h2 => absurd h2 (Nat.not_lt.mpr h1)⟩
  | k + 1, P, h, hz, h15, hq, hob, h0 => by
    rw [pl_loop_s] at h0 ⊢
    by_cases hk : P.2.2.1 7 (P.1 12) = 1
    · rw [if_pos hk] at h0 ⊢
      by_cases hlt : P.1 18 - P.2.2.1 17 (P.1 15 - 1) < 8
      · rw [if_pos hlt] at h0 ⊢
        by_cases h1 : (pl_one tv nv ob P).1 13 = 0
        · rw [if_pos h1] at h0 ⊢
          have x := pl_pis hz hk h1
          generalize pl_one tv nv ob P = X at *
          have hc : SIc nv P := h.1
          have b := (hc.fm (P.1 15 - 1) (P.1 15 - 1) (Nat.le_refl _) (by omega)).2
          have sX : SI ft tv nv X := ⟨SIc_pin h.1 x h15 hob, SIq_pin h.2.1 x h15 hq b hc.fm, SIl_pin h.2.2.1 x, SIi_pin h.2.2.2.1 x h15 hq hc.fm, fun z => by rw [x.e27]; exact h.2.2.2.2 (by rw [← x.e24]; exact z)⟩
          have e23 : X.2.2.1 23 = P.2.2.1 23 := funext fun j => x.fr 23 j (Or.inl (by decide))
          have e17 : X.2.2.1 17 = P.2.2.1 17 := funext fun j => x.fr 17 j (Or.inl (by decide))
          have e18 := x.e18
          by_cases hs : sg tv (nI 44) X = true
          · rw [if_pos hs] at h0 ⊢
            obtain ⟨r1, r2, r3, r4, r5, -, r6, r7, r8⟩ := pl_SI k (sp_go X) (SI_g sX) h1 (by show 1 ≤ X.1 15; rw [x.e15]; exact h15) (by show X.1 24 = X.2.2.1 23 (X.1 15 - 1); rw [x.e24, x.e15, e23]; exact hq) (by
              intro e p hp hp'
              have hp : X.2.2.1 17 (X.1 15 - 1) ≤ p := hp
              have hp' : p < X.1 18 := hp'
              show X.2.2.2.2 19 p = false
              rw [e17, x.e15] at hp
              by_cases q : p = P.1 18
              · subst q; rw [x.v19, e]
              · rw [x.fb 19 p (Or.inr q)]; exact hob e p hp (by omega)) h0
            have r6 : X.1 18 ≤ _ := r6
            refine ⟨r1, r2.trans x.e15, r3.trans x.e24, r4.trans e23, r5.trans e17, Or.inr (by omega), by omega, fun p hp => ?_, fun p hp hp' => ?_⟩
            · rw [r7 p (show p < X.1 18 by omega)]; exact x.fb 19 p (Or.inr (by omega))
            · by_cases q : p = P.1 18
              · subst q; rw [r7 _ (show P.1 18 < X.1 18 by omega)]; exact x.v19
              · exact r8 p (show X.1 18 ≤ p by omega) hp'
          · rw [if_neg hs] at h0 ⊢
            have ez : ∀ k, k ≠ 12 → k ≠ 13 → k ≠ 14 → (sp_sign tv (nI 59) X).1 k = X.1 k := fun k a b c => zk_sign a b c
            refine ⟨SI_sign sX, ?_, ?_, ?_, ?_, Or.inr ?_, ?_, fun p hp => ?_, fun p hp hp' => ?_⟩
            · rw [ez 15 (by decide) (by decide) (by decide)]; exact x.e15
            · rw [ez 24 (by decide) (by decide) (by decide)]; exact x.e24
            · rw [ar_sign]; exact e23
            · rw [ar_sign]; exact e17
            · rw [ez 18 (by decide) (by decide) (by decide)]; omega
            · rw [ez 18 (by decide) (by decide) (by decide)]; omega
            · rw [ar_sign]; exact x.fb 19 p (Or.inr (by omega))
            · rw [ez 18 (by decide) (by decide) (by decide)] at hp'
              rw [ar_sign, show p = P.1 18 by omega]; exact x.v19
        · rw [if_neg h1] at h0; exact absurd h0 h1
      · rw [if_neg hlt] at h0; exact (f_wrong (by decide) h0).elim
    · rw [if_neg hk] at h0; exact (f_syntax h0).elim
/-- a part's links -/
theorem pt_SI {ft tv : Nat → Int32} {nv : Nat → Nat} {T : Nat} : ∀ (k : Nat) (P : PS), wl tv nv T P → (P.1 13 = 0 → ci P) → SI ft tv nv P → 1 ≤ P.1 24 → (1 ≤ P.1 15 ∧ P.2.2.1 23 (P.1 15 - 1) < P.1 24) → (pt_loop ft tv nv k P).1 13 = 0 → SI ft tv nv (pt_loop ft tv nv k P)
  | 0, P, _, _, h, _, _, _ => h
  | k + 1, P, hw, hc, h, h24, hcq, h0 => by
    by_cases hz : P.1 13 = 0
    · rw [pt_loop_s, if_pos hz] at h0 ⊢
      obtain ⟨b18, b37⟩ := ci_b (hc hz)
      obtain ⟨B1, o1, t1, z1, a1⟩ := link_keep (ft := ft) hw.2.1 hw.2.2 hw.1 b18 b37
      have c1 := link_ci (ft := ft) hw.2.1 hw.2.2 (hc hz)
      have sp := fun z => link_spec (ft := ft) hw.2.1 hw.2.2 hw.1 (hc hz) z
      generalize sp_link ft tv nv P = X at *
      have hX : X.1 13 = 0 := by
        by_cases hs : sg tv (nI 44) X = true
        · rw [if_pos hs] at h0
          by_cases q : X.1 13 = 0
          · exact q
          · rw [pt_loop_e (P := sp_go X) q] at h0; exact absurd h0 q
        · rw [if_neg hs] at h0; exact h0
      have x := sp hX
      have e24 := x.frame.2.2.2.2.2.2 24 (by unfold nz; decide)
      have e15 := x.frame.2.2.2.2.2.2 15 (by unfold nz; decide)
      have e23 := x.frame.2.2.2.2.1 23 (by unfold nl; decide)
      have sX : SI ft tv nv X := ⟨SIc_link h.1 x, SIq_link h.2.1 x, SIl_link h.2.1 h.2.2.1 x h24 hcq, SIi_link h.1 h.2.1 h.2.2.1 h.2.2.2.1 x hcq, fun z => by omega⟩
      by_cases hs : sg tv (nI 44) X = true
      · rw [if_pos hs] at h0 ⊢
        have og : okp T (sp_go X) := okp_go o1 (tk_next t1 o1.2 (Or.inr (Or.inr (Or.inl (sg_k hs)))))
        exact pt_SI k (sp_go X) ⟨AB_of B1 rfl, og, t1⟩ (fun z => ci_go (c1 z)) (SI_g sX) (by show 1 ≤ X.1 24; omega) (by show 1 ≤ X.1 15 ∧ X.2.2.1 23 (X.1 15 - 1) < X.1 24; rw [e15, e23, e24]; exact hcq) h0
      · rw [if_neg hs]; exact sX
    · rw [pt_loop_e hz] at h0; exact absurd h0 hz
theorem part_SI {ft tv : Nat → Int32} {nv : Nat → Nat} {T : Nat} {P : PS} (hw : wl tv nv T P) (hz : P.1 13 = 0) (hc : cb P) (h : SI ft tv nv P) (h0 : (sp_part ft tv nv P).1 13 = 0) : SI ft tv nv (sp_part ft tv nv P) := by
  obtain ⟨hci, h24, h18⟩ := hc
  have g15 := hci.1
  unfold sp_part at h0 ⊢
  by_cases hk : P.2.2.1 7 (P.1 12) = 1
  · rw [if_pos hk] at h0 ⊢
    by_cases h13 : 0 < (pt1 P).1 13
    · rw [if_pos h13] at h0; omega
    · rw [if_neg h13] at h0 ⊢
      have f1 := f_room (show (pt1 P).1 13 = 0 by omega)
      have e1 : pt1 P = P := f1.2.2
      rw [e1] at h0 ⊢
      have lt := f1.2.1
      obtain ⟨B3, o3, t3, c3, z3, z24, a3, y3⟩ := pt3_ok hw.2.1 hw.2.2 hw.1 hci hk (by omega)
      have g12 : (sp_go (pt2 P)).1 12 = P.1 12 + 1 := if_pos hz
      have x : pas P (sp_go (pt2 P)) := by
        refine ⟨rfl, rfl, rfl, rfl, rfl, by omega, hk, va_up_self _ _ _, va_up_self _ _ _, fun k j hh => ?_, rfl, h.2.2.2.2⟩
        show (if k = 26 then (fun i => if i = P.1 24 then P.1 27 else P.2.2.1 26 i) else (if k = 25 then (fun i => if i = P.1 24 then P.1 12 else P.2.2.1 25 i) else P.2.2.1 k)) j = _
        by_cases q6 : k = 26
        · subst q6; rw [if_pos rfl]; show (if j = P.1 24 then _ else P.2.2.1 26 j) = _; rw [if_neg (by rcases hh with z | z; exact absurd rfl z.2; exact z)]
        · rw [if_neg q6]
          by_cases q5 : k = 25
          · subst q5; rw [if_pos rfl]; show (if j = P.1 24 then _ else P.2.2.1 25 j) = _; rw [if_neg (by rcases hh with z | z; exact absurd rfl z.1; exact z)]
          · rw [if_neg q5]
      have sX : SI ft tv nv (sp_go (pt2 P)) := ⟨SIc_part h.1 x, SIq_part h.1 h.2.1 x, SIl_part h.1 h.2.1 h.2.2.1 x, SIi_part (nv := nv) h.2.1 h.2.2.1 h.2.2.2.1 x, fun z => by have : P.1 24 + 1 = 0 := z; omega⟩
      have s3 : SI ft tv nv (pt3 tv P) := SI_sign sX
      have fs := f_sign h0
      have fs2 := f_sign fs.1
      have e15 : (pt3 tv P).1 15 = P.1 15 := z3 15 (by decide) (by decide) (by decide) (by decide)
      have e23 : (pt3 tv P).2.2.1 23 = P.2.2.1 23 := a3 23 (by decide) (by decide)
      exact SI_sign (SI_sign (pt_SI 1002 (pt3 tv P) ⟨B3, o3, t3⟩ (fun _ => c3) s3 (by omega) (by rw [e15, e23, z24]; omega) fs2.1))
  · rw [if_neg hk] at h0; exact (f_syntax h0).elim
theorem link_b {ft tv : Nat → Int32} {nv : Nat → Nat} {P : PS} : (sp_link ft tv nv P).2.2.2.2 = P.2.2.2.2 := by
  have b5 : (lk5 tv nv P).2.2.2.2 = P.2.2.2.2 := by
    unfold lk5; rw [ar_sign]; show (lk3 tv nv P).2.2.2.2 = _; rw [ar_lk3]; show (sp_name P).2.2.2.2 = _; rw [ar_name]
  have bx : ∀ R : PS, (lkx ft tv nv R).2.2.2.2 = R.2.2.2.2 := by
    intro R; show (lk9 tv nv R).2.2.2.2 = _; unfold lk9; rw [ar_range]; rfl
  unfold sp_link
  split
  · rw [ar_name]
  split
  · exact b5
  unfold lk_rt
  split
  · exact b5
  split
  · rw [lk_nm_x]
    have b7 : (lk7 (lkr (lk6 (lk5 tv nv P)))).2.2.2.2 = P.2.2.2.2 := by unfold lk7; rw [ar_room]; exact b5
    split
    · split
      · exact b7
      · rw [bx]; exact b7
    · rw [bx]; exact b5
  · show (sp_syntax (lk6 (lk5 tv nv P))).2.2.2.2 = _; rw [ar_syntax]; exact b5
theorem pt_b {ft tv : Nat → Int32} {nv : Nat → Nat} : ∀ (k : Nat) (P : PS), (pt_loop ft tv nv k P).2.2.2.2 = P.2.2.2.2
  | 0, P => rfl
  | k + 1, P => by
    rw [pt_loop_s]
    split
    · split
      · rw [pt_b k]; exact link_b
      · exact link_b
    · rfl
theorem part_b {ft tv : Nat → Int32} {nv : Nat → Nat} {P : PS} : (sp_part ft tv nv P).2.2.2.2 = P.2.2.2.2 := by
  unfold sp_part
  split
  · split
    · unfold pt1; rw [ar_room]
    · rw [ar_sign, ar_sign, pt_b]
      unfold pt3; rw [ar_sign]
      show (pt1 P).2.2.2.2 = _
      unfold pt1; rw [ar_room]
  · rw [ar_syntax]
theorem ch_SI {ft tv : Nat → Int32} {nv : Nat → Nat} {T : Nat} : ∀ (k : Nat) (P : PS), wl tv nv T P → (P.1 13 = 0 → cb P) → SI ft tv nv P → (ch_loop ft tv nv k P).1 13 = 0 → SI ft tv nv (ch_loop ft tv nv k P) ∧ (ch_loop ft tv nv k P).1 15 = P.1 15 ∧ (ch_loop ft tv nv k P).1 18 = P.1 18 ∧ (∀ j, j < P.1 15 → (ch_loop ft tv nv k P).2.2.1 17 j = P.2.2.1 17 j) ∧ (ch_loop ft tv nv k P).2.2.2.2 = P.2.2.2.2
  | 0, P, _, _, h, _ => ⟨h, rfl, rfl, fun _ _ => rfl, rfl⟩
  | k + 1, P, hw, hc, h, h0 => by
    rw [ch_loop_s] at h0 ⊢
    by_cases q : P.1 13 = 0 ∧ sg tv (nI 125) P = false
    · rw [if_pos q] at h0 ⊢
      obtain ⟨r1, r2, r3, r4, r5, r6, r7⟩ := part_keep (ft := ft) hw.2.1 hw.2.2 hw.1 q.1 (hc q.1)
      have hX : (sp_part ft tv nv P).1 13 = 0 := by
        by_cases z : (sp_part ft tv nv P).1 13 = 0
        · exact z
        · rw [ch_loop_e z] at h0; exact absurd h0 z
      have sX := part_SI hw q.1 (hc q.1) h hX
      obtain ⟨s1, s2, s3, s4, s5⟩ := ch_SI (ft := ft) k (sp_part ft tv nv P) ⟨r1, r2, r3⟩ (fun z => (r7 z).1) sX h0
      have e15 := r4 15 (by unfold nz; decide) (by decide)
      have e18 := r4 18 (by unfold nz; decide) (by decide)
      refine ⟨s1, s2.trans e15, s3.trans e18, fun j hj => ?_, s5.trans ?_⟩
      · rw [s4 j (by omega)]; exact r6 17 j (Or.inl rfl) (by omega)
      · exact part_b
    · rw [if_neg q]; exact ⟨h, rfl, rfl, fun _ _ => rfl, rfl⟩
/-- a chip has two pins at least -/
def TP (P : PS) : Prop := ∀ k, k < P.1 15 → P.2.2.1 17 k + 2 ≤ if k + 1 < P.1 15 then P.2.2.1 17 (k + 1) else P.1 18
theorem f_chpl {tv : Nat → Int32} {nv : Nat → Nat} {ob : Bool} {X : PS} (h : (ch_pl tv nv ob X).1 13 = 0) : X.1 13 = 0 ∧ ch_pl tv nv ob X = pl_loop tv nv ob 1002 X := by
  unfold ch_pl at h ⊢
  by_cases q : X.1 13 = 0
  · rw [if_pos q]; exact ⟨q, rfl⟩
  · rw [if_neg q] at h; exact absurd h q
theorem chip_SI {ft tv : Nat → Int32} {nv : Nat → Nat} {T : Nat} {P : PS} (hw : wl tv nv T P) (hc : ct P) (h : SI ft tv nv P) (ht : TP P) (h0 : (sp_chip ft tv nv P).1 13 = 0) : SI ft tv nv (sp_chip ft tv nv P) ∧ TP (sp_chip ft tv nv P) ∧ (sp_chip ft tv nv P).1 15 = P.1 15 + 1 := by
  obtain ⟨w3, s3, z3⟩ := wl_ch3 hw
  unfold sp_chip at h0 ⊢
  by_cases h13 : 0 < (ch3 tv P).1 13
  · rw [if_pos h13] at h0; omega
  · rw [if_neg h13] at h0 ⊢
    obtain ⟨f1, f2, f3, f4, f5⟩ := f_ch3 (show (ch3 tv P).1 13 = 0 by omega)
    have c3 : ct (ch3 tv P) := by
      unfold ct at hc ⊢
      rw [z3 15 (by decide) (by decide) (by decide), z3 18 (by decide) (by decide) (by decide), z3 24 (by decide) (by decide) (by decide), z3 37 (by decide) (by decide) (by decide), z3 27 (by decide) (by decide) (by decide)]
      omega
    have w7 := wc_ch7 (nv := nv) w3 c3 f3 (by omega) f4
    have sR : SI ft tv nv (ch3 tv P) := by rw [f2]; exact SI_g h
    have tR : TP (ch3 tv P) := by rw [f2]; exact ht
    have r13 : (ch3 tv P).1 13 = 0 := by omega
    have e15 : (ch3 tv P).1 15 = P.1 15 := z3 15 (by decide) (by decide) (by decide)
    rw [← e15]
    generalize ch3 tv P = R at *
    have g12 : (sp_go (ch4 R)).1 12 = R.1 12 + 1 := if_pos r13
    have x : chs R (sp_go (ch4 R)) := by
      refine ⟨rfl, rfl, rfl, rfl, rfl, by omega, f4, va_up_self _ _ _, va_up_self _ _ _, va_up_self _ _ _, va_up_self _ _ _, fun k j hh => ?_, rfl, fun z => ?_⟩
      · show (if k = 36 then (fun i => if i = R.1 15 then R.1 37 else R.2.2.1 36 i) else (if k = 23 then (fun i => if i = R.1 15 then R.1 24 else R.2.2.1 23 i) else (if k = 17 then (fun i => if i = R.1 15 then R.1 18 else R.2.2.1 17 i) else (if k = 16 then (fun i => if i = R.1 15 then R.1 12 else R.2.2.1 16 i) else R.2.2.1 k)))) j = _
        by_cases q : j = R.1 15
        · rcases hh with hh | hh
          · rw [if_neg hh.2.2.2, if_neg hh.2.2.1, if_neg hh.2.1, if_neg hh.1]
          · exact absurd q hh
        · by_cases q1 : k = 36
          · subst q1; rw [if_pos rfl]; exact if_neg q
          rw [if_neg q1]
          by_cases q2 : k = 23
          · subst q2; rw [if_pos rfl]; exact if_neg q
          rw [if_neg q2]
          by_cases q3 : k = 17
          · subst q3; rw [if_pos rfl]; exact if_neg q
          rw [if_neg q3]
          by_cases q4 : k = 16
          · subst q4; rw [if_pos rfl]; exact if_neg q
          rw [if_neg q4]
      · obtain ⟨c1, c2, c3', c4, c5⟩ := c3; omega
    have s4 : SI ft tv nv (sp_go (ch4 R)) := ⟨SIc_chip sR.1 x, SIq_chip sR.1 sR.2.1 x, SIl_chip sR.2.2.1 x, SIi_chip sR.2.2.2.1 x, fun z => sR.2.2.2.2 z⟩
    have s5 : SI ft tv nv (ch5 tv R) := by unfold ch5; exact SI_word (SI_sign s4)
    -- no fault anywhere
    have k8 := f_sign h0
    have k7 : (ch7 tv nv R).1 13 = 0 := by
      by_cases q : (ch7 tv nv R).1 13 = 0
      · exact q
      · have := k8.1; rw [ch_loop_e q] at this; exact absurd this q
    have k7' := k7
    unfold ch7 at k7'
    have k6 := f_word (f_sign k7').1
    have kp := f_chpl k6.1
    have kp1 := kp.1
    unfold ch6 at kp1
    have k5 := f_word kp1
    have kq := f_chpl k5.1
    -- the pins
    have z5 : ∀ k, k ≠ 12 → k ≠ 13 → k ≠ 14 → (ch5 tv R).1 k = (ch4 R).1 k := fun k a b c => by unfold ch5; rw [zk_word a b c, zk_sign a b c, zk_go a b c]
    have a5 : (ch5 tv R).2.2 = (ch4 R).2.2 := by unfold ch5; rw [ar_word, ar_sign]; rfl
    have b15 : (ch5 tv R).1 15 = R.1 15 + 1 := z5 15 (by decide) (by decide) (by decide)
    have b18 : (ch5 tv R).1 18 = R.1 18 := z5 18 (by decide) (by decide) (by decide)
    have b24 : (ch5 tv R).1 24 = R.1 24 := z5 24 (by decide) (by decide) (by decide)
    have b17 : (ch5 tv R).2.2.1 17 (R.1 15) = R.1 18 := by rw [a5]; exact va_up_self _ _ _
    have b23 : (ch5 tv R).2.2.1 23 (R.1 15) = R.1 24 := by rw [a5]; exact va_up_self _ _ _
    have b17' : ∀ j, j < R.1 15 → (ch5 tv R).2.2.1 17 j = R.2.2.1 17 j := fun j hj => by rw [a5]; exact x.fr 17 j (Or.inr (by omega))
    obtain ⟨p1, p2, p3, p4, p5, p6, p7, p8, p9⟩ := pl_SI (ft := ft) (ob := false) 1002 (ch5 tv R) s5 kq.1 (by omega) (by rw [b15, Nat.add_sub_cancel, b23, b24]) (by
      intro _ p hp hp'; rw [b15, Nat.add_sub_cancel, b17] at hp; omega) (by rw [← kq.2]; exact k5.1)
    rw [← kq.2] at p1 p2 p3 p4 p5 p6 p7 p8 p9
    have s6 : SI ft tv nv (ch6 tv nv R) := by unfold ch6; exact SI_word p1
    have z6 : ∀ k, k ≠ 12 → k ≠ 13 → k ≠ 14 → (ch6 tv nv R).1 k = (ch_pl tv nv false (ch5 tv R)).1 k := fun k a b c => by unfold ch6; rw [zk_word a b c]
    have a6 : (ch6 tv nv R).2.2 = (ch_pl tv nv false (ch5 tv R)).2.2 := by unfold ch6; rw [ar_word]
    have d15 : (ch6 tv nv R).1 15 = R.1 15 + 1 := by rw [z6 15 (by decide) (by decide) (by decide), p2, b15]
    have d24 : (ch6 tv nv R).1 24 = R.1 24 := by rw [z6 24 (by decide) (by decide) (by decide), p3, b24]
    have d17 : (ch6 tv nv R).2.2.1 17 = (ch5 tv R).2.2.1 17 := by rw [a6, p5]
    have d23 : (ch6 tv nv R).2.2.1 23 = (ch5 tv R).2.2.1 23 := by rw [a6, p4]
    have d18 : R.1 18 < (ch6 tv nv R).1 18 := by rw [z6 18 (by decide) (by decide) (by decide)]; rcases p6 with q | q; exact absurd q (by decide); omega
    obtain ⟨u1, u2, u3, u4, u5, u6, u7, u8, u9⟩ := pl_SI (ft := ft) (ob := true) 1002 (ch6 tv nv R) s6 kp.1 (by omega) (by rw [d15, Nat.add_sub_cancel, d23, b23, d24]) (by intro z; cases z) (by rw [← kp.2]; exact k6.1)
    rw [← kp.2] at u1 u2 u3 u4 u5 u6 u7 u8 u9
    have s7 : SI ft tv nv (ch7 tv nv R) := by unfold ch7; exact SI_sign (SI_word u1)
    have z7 : ∀ k, k ≠ 12 → k ≠ 13 → k ≠ 14 → (ch7 tv nv R).1 k = (ch_pl tv nv true (ch6 tv nv R)).1 k := fun k a b c => by unfold ch7; rw [zk_sign a b c, zk_word a b c]
    have a7 : (ch7 tv nv R).2.2 = (ch_pl tv nv true (ch6 tv nv R)).2.2 := by unfold ch7; rw [ar_sign, ar_word]
    have v15 : (ch7 tv nv R).1 15 = R.1 15 + 1 := by rw [z7 15 (by decide) (by decide) (by decide), u2, d15]
    have v18 : R.1 18 + 2 ≤ (ch7 tv nv R).1 18 := by rw [z7 18 (by decide) (by decide) (by decide)]; rcases u6 with q | q; exact absurd q (by decide); omega
    have v17 : (ch7 tv nv R).2.2.1 17 = (ch5 tv R).2.2.1 17 := by rw [a7, u5, d17]
    obtain ⟨w1, w2, w3', w4, w5⟩ := ch_SI (ft := ft) 1002 (ch7 tv nv R) w7.1 (fun _ => w7.2) s7 k8.1
    refine ⟨SI_sign w1, ?_, ?_⟩
    · have y : ∀ k, k ≠ 12 → k ≠ 13 → k ≠ 14 → (sp_sign tv (nI 125) (ch_loop ft tv nv 1002 (ch7 tv nv R))).1 k = (ch_loop ft tv nv 1002 (ch7 tv nv R)).1 k := fun k a b c => zk_sign a b c
      intro k hk
      rw [y 15 (by decide) (by decide) (by decide), w2, v15] at hk ⊢
      rw [y 18 (by decide) (by decide) (by decide), w3', ar_sign, w4 k (by omega), v17]
      by_cases q : k = R.1 15
      · subst q; rw [b17, if_neg (by omega)]; exact v18
      · rw [b17' k (by omega), if_pos (by omega), w4 (k + 1) (by omega), v17]
        have := tR k (by omega)
        by_cases q' : k + 1 < R.1 15
        · rw [if_pos q'] at this; rw [b17' (k + 1) q']; exact this
        · rw [if_neg q'] at this; rw [show k + 1 = R.1 15 by omega, b17]; exact this
    · rw [zk_sign (by decide) (by decide) (by decide), w2, v15]
theorem tt_SI {ft tv : Nat → Int32} {nv : Nat → Nat} {T : Nat} : ∀ (k : Nat) (P : PS), wl tv nv T P → (P.1 13 = 0 → ct P) → SI ft tv nv P → TP P → (tt_loop ft tv nv k P).1 13 = 0 → SI ft tv nv (tt_loop ft tv nv k P) ∧ TP (tt_loop ft tv nv k P) ∧ (k = 0 ∨ 1 ≤ (tt_loop ft tv nv k P).1 15) ∧ P.1 15 ≤ (tt_loop ft tv nv k P).1 15
  | 0, P, _, _, h, ht, _ => ⟨h, ht, Or.inl rfl, Nat.le_refl _⟩
  | k + 1, P, hw, hc, h, ht, h0 => by
    by_cases hz : P.1 13 = 0
    · rw [tt_loop_s, if_pos hz] at h0 ⊢
      obtain ⟨r1, r2⟩ := chip_keep (ft := ft) hw (hc hz)
      have hX : (sp_chip ft tv nv P).1 13 = 0 := by
        split at h0
        · exact h0
        · by_cases z : (sp_chip ft tv nv P).1 13 = 0
          · exact z
          · rw [tt_loop_e z] at h0; exact absurd h0 z
      obtain ⟨s1, s2, s3⟩ := chip_SI hw (hc hz) h ht hX
      by_cases q : (sp_chip ft tv nv P).2.2.1 7 ((sp_chip ft tv nv P).1 12) = 0
      · rw [if_pos q]; exact ⟨s1, s2, Or.inr (by omega), by omega⟩
      · rw [if_neg q] at h0 ⊢
        obtain ⟨t1, t2, t3, t4⟩ := tt_SI k _ r1 (fun z => (r2 z).1) s1 s2 h0
        exact ⟨t1, t2, Or.inr (by omega), by omega⟩
    · rw [tt_loop_e hz] at h0; exact absurd h0 hz
theorem SI_tt0 (ft tv : Nat → Int32) (nv : Nat → Nat) (P : PS) : SI ft tv nv (tt0 P) ∧ TP (tt0 P) := by
  have e15 : (tt0 P).1 15 = 0 := rfl
  have e18 : (tt0 P).1 18 = 0 := rfl
  have e24 : (tt0 P).1 24 = 0 := rfl
  have e27 : (tt0 P).1 27 = 0 := rfl
  have e37 : (tt0 P).1 37 = 0 := rfl
  refine ⟨⟨⟨?_, ?_, ?_, ?_, ?_, ?_, ?_, ?_⟩, ⟨?_, ?_, ?_, ?_, ?_, ?_⟩, ⟨?_, ?_, ?_, ?_, ?_, ?_⟩, ⟨?_, ?_, ?_, ?_⟩, fun _ => rfl⟩, ?_⟩ <;> (try unfold TP) <;> (try rw [e15]) <;> (try rw [e18]) <;> (try rw [e24]) <;> (try rw [e27]) <;> (try rw [e37]) <;> intros <;> omega
/-- what the parser leaves behind where the text has no fault: the ends of the last chip and part are told too -/
def PT (ft tv : Nat → Int32) (nv : Nat → Nat) (P : PS) : Prop := (SI ft tv nv P) ∧ (TP P) ∧ (1 ≤ P.1 15) ∧ (ct P) ∧ (P.2.2.1 17 (P.1 15) = P.1 18) ∧ (P.2.2.1 23 (P.1 15) = P.1 24) ∧ (P.2.2.1 36 (P.1 15) = P.1 37) ∧ (P.2.2.1 26 (P.1 24) = P.1 27)
theorem PT.si {ft tv : Nat → Int32} {nv : Nat → Nat} {P : PS} (h : PT ft tv nv P) : SI ft tv nv P := h.1
theorem PT.tp {ft tv : Nat → Int32} {nv : Nat → Nat} {P : PS} (h : PT ft tv nv P) : TP P := h.2.1
theorem PT.c1 {ft tv : Nat → Int32} {nv : Nat → Nat} {P : PS} (h : PT ft tv nv P) : 1 ≤ P.1 15 := h.2.2.1
theorem PT.ct {ft tv : Nat → Int32} {nv : Nat → Nat} {P : PS} (h : PT ft tv nv P) : ct P := h.2.2.2.1
theorem PT.pe {ft tv : Nat → Int32} {nv : Nat → Nat} {P : PS} (h : PT ft tv nv P) : P.2.2.1 17 (P.1 15) = P.1 18 := h.2.2.2.2.1
theorem PT.qe {ft tv : Nat → Int32} {nv : Nat → Nat} {P : PS} (h : PT ft tv nv P) : P.2.2.1 23 (P.1 15) = P.1 24 := h.2.2.2.2.2.1
theorem PT.ie {ft tv : Nat → Int32} {nv : Nat → Nat} {P : PS} (h : PT ft tv nv P) : P.2.2.1 36 (P.1 15) = P.1 37 := h.2.2.2.2.2.2.1
theorem PT.le {ft tv : Nat → Int32} {nv : Nat → Nat} {P : PS} (h : PT ft tv nv P) : P.2.2.1 26 (P.1 24) = P.1 27 := h.2.2.2.2.2.2.2
theorem texts_PT {ft tv : Nat → Int32} {nv : Nat → Nat} {T : Nat} {P : PS} (hw : wl tv nv T P) (h0 : (sp_texts ft tv nv P).1 13 = 0) : PT ft tv nv (sp_texts ft tv nv P) := by
  obtain ⟨w0, c0⟩ := wl_tt0 hw
  obtain ⟨r1, r2⟩ := tt_keep (ft := ft) 1002 (tt0 P) w0 (fun _ => c0)
  have i0 := SI_tt0 ft tv nv P
  have hX : (tt_loop ft tv nv 1002 (tt0 P)).1 13 = 0 := h0
  obtain ⟨s1, s2, s3, -⟩ := tt_SI (ft := ft) 1002 (tt0 P) w0 (fun _ => c0) i0.1 i0.2 hX
  have cc := r2 hX
  unfold sp_texts
  generalize tt_loop ft tv nv 1002 (tt0 P) = X at *
  have h1 : 1 ≤ X.1 15 := by rcases s3 with q | q; exact absurd q (by decide); exact q
  have fr : ∀ k j, (k ≠ 17 ∧ k ≠ 23 ∧ k ≠ 36 ∨ j ≠ X.1 15) ∧ (k ≠ 26 ∨ j ≠ X.1 24) → (tt_end X).2.2.1 k j = X.2.2.1 k j := by
    intro k j hh
    show (if k = 26 then (fun i => if i = X.1 24 then X.1 27 else X.2.2.1 26 i) else (if k = 36 then (fun i => if i = X.1 15 then X.1 37 else X.2.2.1 36 i) else (if k = 23 then (fun i => if i = X.1 15 then X.1 24 else X.2.2.1 23 i) else (if k = 17 then (fun i => if i = X.1 15 then X.1 18 else X.2.2.1 17 i) else X.2.2.1 k)))) j = _
    by_cases q6 : k = 26
    · subst q6; rw [if_pos rfl]; exact if_neg (by rcases hh.2 with z | z; exact absurd rfl z; exact z)
    rw [if_neg q6]
    by_cases q1 : k = 36
    · subst q1; rw [if_pos rfl]; exact if_neg (by rcases hh.1 with z | z; exact absurd rfl z.2.2; exact z)
    rw [if_neg q1]
    by_cases q2 : k = 23
    · subst q2; rw [if_pos rfl]; exact if_neg (by rcases hh.1 with z | z; exact absurd rfl z.2.1; exact z)
    rw [if_neg q2]
    by_cases q3 : k = 17
    · subst q3; rw [if_pos rfl]; exact if_neg (by rcases hh.1 with z | z; exact absurd rfl z.1; exact z)
    rw [if_neg q3]
  have ak : ∀ k, k ≠ 17 → k ≠ 23 → k ≠ 36 → k ≠ 26 → (tt_end X).2.2.1 k = X.2.2.1 k := fun k a b c d => funext fun j => fr k j ⟨Or.inl ⟨a, b, c⟩, Or.inl d⟩
  have a17 : ∀ j, j < X.1 15 → (tt_end X).2.2.1 17 j = X.2.2.1 17 j := fun j hj => fr 17 j ⟨Or.inr (by omega), Or.inl (by decide)⟩
  have a23 : ∀ j, j < X.1 15 → (tt_end X).2.2.1 23 j = X.2.2.1 23 j := fun j hj => fr 23 j ⟨Or.inr (by omega), Or.inl (by decide)⟩
  have a36 : ∀ j, j < X.1 15 → (tt_end X).2.2.1 36 j = X.2.2.1 36 j := fun j hj => fr 36 j ⟨Or.inr (by omega), Or.inl (by decide)⟩
  have a26 : ∀ j, j < X.1 24 → (tt_end X).2.2.1 26 j = X.2.2.1 26 j := fun j hj => fr 26 j ⟨Or.inl (by decide), Or.inr (by omega)⟩
  have ez : (tt_end X).1 = X.1 := rfl
  have eo : (tt_end X).2.2.2 = X.2.2.2 := rfl
  obtain ⟨⟨g1, g2, g3, g4, g5, g6, g7, g8⟩, ⟨q1, q2, q3, q4, q5, q6⟩, ⟨l1, l2, l3, l4, l5, l6⟩, ⟨n1, n2, n3, n4⟩, z0⟩ := s1
  refine ⟨⟨⟨?_, ?_, ?_, ?_, ?_, ?_, ?_, ?_⟩, ⟨?_, ?_, ?_, ?_, ?_, ?_⟩, ⟨?_, ?_, ?_, ?_, ?_, ?_⟩, ⟨?_, ?_, ?_, ?_⟩, z0⟩, ?_, h1, cc, va_up_self _ _ _, va_up_self _ _ _, va_up_self _ _ _, va_up_self _ _ _⟩
  · rw [ez, ak 7 (by decide) (by decide) (by decide) (by decide), ak 16 (by decide) (by decide) (by decide) (by decide)]; exact g1
  · rw [ez, ak 16 (by decide) (by decide) (by decide) (by decide)]; exact g2
  · rw [ez]; intro z; rw [a17 0 z]; exact g3 z
  · rw [ez]; intro k k' a b; rw [a17 k (by omega), a17 k' b]; exact g4 k k' a b
  · rw [ez, eo, ak 7 (by decide) (by decide) (by decide) (by decide), ak 20 (by decide) (by decide) (by decide) (by decide), ak 21 (by decide) (by decide) (by decide) (by decide)]; exact g5
  · rw [ez, eo, ak 20 (by decide) (by decide) (by decide) (by decide)]; exact g6
  · rw [ez, eo, ak 16 (by decide) (by decide) (by decide) (by decide), ak 20 (by decide) (by decide) (by decide) (by decide)]; intro k p a b; rw [a17 k a]; exact g7 k p a b
  · rw [ez, eo]; intro k p p' a b c d e f
    rw [a17 k a] at b
    exact g8 k p p' a b c d (fun z => by rw [← a17 (k + 1) z]; exact e z) f
  · rw [ez]; intro z; rw [a23 0 z]; exact q1 z
  · rw [ez]; intro k k' a b; rw [a23 k (by omega), a23 k' b]; exact q2 k k' a b
  · rw [ez, ak 7 (by decide) (by decide) (by decide) (by decide), ak 25 (by decide) (by decide) (by decide) (by decide)]; exact q3
  · rw [ez, ak 25 (by decide) (by decide) (by decide) (by decide)]; exact q4
  · rw [ez, ak 16 (by decide) (by decide) (by decide) (by decide), ak 25 (by decide) (by decide) (by decide) (by decide)]; intro k p a b; rw [a23 k a]; exact q5 k p a b
  · rw [ez, eo, ak 20 (by decide) (by decide) (by decide) (by decide), ak 25 (by decide) (by decide) (by decide) (by decide)]; intro k p p' a b c d e
    rw [a23 k a] at e
    exact q6 k p p' a b c (fun z => by rw [← a17 (k + 1) z]; exact d z) e
  · rw [ez]; intro z; rw [a26 0 z]; exact l1 z
  · rw [ez]; intro p p' a b; rw [a26 p (by omega), a26 p' b]; exact l2 p p' a b
  · rw [ez, eo, ak 7 (by decide) (by decide) (by decide) (by decide), ak 28 (by decide) (by decide) (by decide) (by decide), ak 30 (by decide) (by decide) (by decide) (by decide), ak 31 (by decide) (by decide) (by decide) (by decide), ak 32 (by decide) (by decide) (by decide) (by decide), ak 34 (by decide) (by decide) (by decide) (by decide), ak 35 (by decide) (by decide) (by decide) (by decide)]; exact l3
  · rw [ez, eo, ak 28 (by decide) (by decide) (by decide) (by decide), ak 32 (by decide) (by decide) (by decide) (by decide)]; exact l4
  · rw [ez, eo, ak 25 (by decide) (by decide) (by decide) (by decide), ak 28 (by decide) (by decide) (by decide) (by decide), ak 32 (by decide) (by decide) (by decide) (by decide)]; intro p l a b; rw [a26 p a]; exact l5 p l a b
  · rw [ez, eo, ak 16 (by decide) (by decide) (by decide) (by decide), ak 32 (by decide) (by decide) (by decide) (by decide)]; intro k l a b c
    refine l6 k l a b (fun z => ?_)
    rw [a23 k a] at c
    have := c z
    rwa [a26 _ z] at this
  · rw [ez]; intro z; rw [a36 0 z]; exact n1 z
  · rw [ez]; intro k k' a b; rw [a36 k (by omega), a36 k' b]; exact n2 k k' a b
  · rw [ez, ak 7 (by decide) (by decide) (by decide) (by decide), ak 38 (by decide) (by decide) (by decide) (by decide)]; exact n3
  · rw [ez, ak 7 (by decide) (by decide) (by decide) (by decide), ak 8 (by decide) (by decide) (by decide) (by decide), ak 9 (by decide) (by decide) (by decide) (by decide), ak 20 (by decide) (by decide) (by decide) (by decide), ak 32 (by decide) (by decide) (by decide) (by decide), ak 38 (by decide) (by decide) (by decide) (by decide)]
    intro k l pe ie a b p1 p2 i1 i2 hq hx hkd
    rw [a17 k a, a36 k a]
    rw [a23 k a] at hq
    refine n4 k l pe ie a b (fun z => by rw [← a17 (k + 1) z]; exact p1 z) p2 (fun z => by rw [← a36 (k + 1) z]; exact i1 z) i2 ⟨hq.1, by rw [← a26 _ hq.1]; exact hq.2⟩ (fun z1 z2 => ?_) hkd
    have := hx z1
    rw [a23 (k + 1) z1] at this
    have := this z2
    rwa [a26 _ z2] at this
  · intro k hk
    rw [ez] at hk ⊢
    rw [a17 k hk]
    have := s2 k hk
    split
    · rename_i z; rw [if_pos z] at this; rw [a17 (k + 1) z]; exact this
    · rename_i z; rw [if_neg z] at this; exact this
