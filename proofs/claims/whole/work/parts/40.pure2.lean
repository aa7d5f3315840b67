/-! What link() keeps -/
def ci (P : PS) : Prop := (1 ≤ P.1 15 ∧ P.1 15 ≤ 8) ∧ P.1 18 ≤ 200 ∧ (P.2.2.1 36 (P.1 15 - 1) ≤ P.1 37 ∧ P.1 37 ≤ P.2.2.1 36 (P.1 15 - 1) + 30 ∧ P.2.2.1 36 (P.1 15 - 1) ≤ 30 * (P.1 15 - 1)) ∧ 3 * P.1 27 ≤ P.1 12 ∧ 1 ≤ P.1 12
/-- bounds of what stands in the rows of numbers -/
def bk (k : Nat) : Nat := if k = 7 then 8 else if k = 8 ∨ k = 9 then 2001 else if k = 17 then 201 else if k = 21 then 17 else if k = 23 then 401 else if k = 26 ∨ k = 36 then 701 else if k = 30 ∨ k = 31 ∨ k = 34 ∨ k = 35 then 100 else 1002
def AB (P : PS) : Prop := (∀ k j, P.2.2.1 k j < bk k) ∧ ∀ k j z, P.2.2.2.1 k j = some z → z < 1002
theorem AB_of {P X : PS} (h : AB P) (e : X.2.2 = P.2.2) : AB X := by unfold AB; rw [e]; exact h
theorem AB_ars {P : PS} {k i v : Nat} (h : AB P) (hv : v < bk k) : AB (ars P k i v) := by
  refine ⟨fun k' j => ?_, h.2⟩
  show (if k' = k then (fun j => if j = i then v else P.2.2.1 k j) else P.2.2.1 k') j < _
  split
  · rename_i e; subst e
    show (if j = i then v else _) < _
    split
    · exact hv
    · exact h.1 _ j
  · exact h.1 k' j
theorem AB_aos {P : PS} {k i : Nat} {v : Option Nat} (h : AB P) (hv : ∀ z, v = some z → z < 1002) : AB (aos P k i v) := by
  refine ⟨h.1, fun k' j z => ?_⟩
  show (if k' = k then (fun j => if j = i then v else P.2.2.2.1 k j) else P.2.2.2.1 k') j = some z → _
  split
  · show (if j = i then v else _) = some z → _
    split
    · exact hv z
    · exact h.2 k j z
  · exact h.2 k' j z
theorem AB_abs {P : PS} {k i : Nat} {v : Bool} (h : AB P) : AB (abs_ P k i v) := h
theorem ci_clk {P : PS} (h : ci P) (hB : AB P) : clk P := by
  obtain ⟨h1, h2, ⟨h3, h4, h5⟩, h6, h7⟩ := h
  exact ⟨h1, h2, ⟨h3, by omega⟩, h6, h7, fun j => ⟨hB.1 20 j, hB.1 38 j, Nat.lt_succ_iff.mp (hB.1 17 j), Nat.lt_succ_iff.mp (hB.1 36 j)⟩⟩
theorem range_k {tv : Nat → Int32} {P : PS} {k : Nat} (h12 : k ≠ 12) (h13 : k ≠ 13) (h14 : k ≠ 14) : (sp_range3 tv P).1 k = (sp_range0 P).1 k := by
  have h1 : (sp_range1 P).1 k = (sp_range0 P).1 k := by unfold sp_range1; rw [zk_number h12 h13 h14, zk_go h12 h13 h14]
  unfold sp_range3; rw [zk_sign h12 h13 h14]; unfold sp_range2; split
  · rw [zk_number h12 h13 h14, zk_go h12 h13 h14]; exact h1
  · exact h1
theorem range_o {tv : Nat → Int32} {P : PS} : (sp_range3 tv P).2.1 41 = some (P.1 12) := by
  have h1 : (sp_range1 P).2.1 41 = some (P.1 12) := by unfold sp_range1; rw [ar_number]; rfl
  unfold sp_range3; rw [ar_sign]; unfold sp_range2; split
  · rw [ar_number]; exact h1
  · exact h1
theorem range_b {tv : Nat → Int32} {nv : Nat → Nat} {T : Nat} {P : PS} (ho : okp T P) (ht : tkv tv nv T P.2.2.1) : (sp_range tv nv P).1 42 < 100 ∧ (sp_range tv nv P).1 43 < 100 ∧ ∀ z, (sp_range tv nv P).2.1 41 = some z → z < 1002 := by
  have hT := ht.2.1.1
  have h12 := ho.2
  have nn : ∀ {X : PS}, X.2.2 = P.2.2 → (sp_number X).1 13 = 0 → nv ((sp_number X).1 12 - 1) < 100 := by
    intro X e h
    have h1 := f_number h
    rw [h1.2.2, Nat.add_sub_cancel]
    have := (ht.2.2.1 (X.1 12) (by rw [← e]; exact h1.2.1)).2
    omega
  unfold sp_range
  split
  · split
    · rename_i h0
      have h2 := (f_sign h0).1
      have c2 : (sp_range2 tv P).1 13 = 0 := h2
      have b2 : nv ((sp_range2 tv P).1 12 - 1) < 100 ∧ (sp_range1 P).1 13 = 0 := by
        unfold sp_range2 at c2 ⊢
        split
        · rename_i q
          rw [if_pos q] at c2
          exact ⟨nn (show (sp_go (sp_range1 P)).2.2 = P.2.2 from ar_range1 P) c2, q.1⟩
        · rename_i q
          rw [if_neg q] at c2
          exact ⟨nn (X := sp_go (os (sp_range0 P) 41 (some (P.1 12)))) rfl c2, c2⟩
      have b1 : nv ((sp_range1 P).1 12 - 1) < 100 := nn (X := sp_go (os (sp_range0 P) 41 (some (P.1 12)))) rfl b2.2
      refine ⟨b1, b2.1, fun z hz => ?_⟩
      have hz : (sp_range3 tv P).2.1 41 = some z := hz
      rw [range_o] at hz; cases hz; omega
    · refine ⟨?_, ?_, fun z hz => ?_⟩
      · rw [range_k (by decide) (by decide) (by decide)]; show 0 < 100; decide
      · rw [range_k (by decide) (by decide) (by decide)]; show 0 < 100; decide
      · rw [range_o] at hz; cases hz; omega
  · exact ⟨by show 0 < 100; decide, by show 0 < 100; decide, fun z hz => by cases (show (none : Option Nat) = some z from hz)⟩
theorem zk_lk5 {tv : Nat → Int32} {nv : Nat → Nat} {k : Nat} {P : PS} (h12 : k ≠ 12) (h13 : k ≠ 13) (h14 : k ≠ 14) (h42 : k ≠ 42) (h43 : k ≠ 43) : (lk5 tv nv P).1 k = P.1 k := by
  unfold lk5; rw [zk_sign h12 h13 h14]
  show (lk3 tv nv P).1 k = _
  unfold lk3; rw [zk_range h12 h13 h14 h42 h43]
  show (sp_name P).1 k = _
  exact zk_name h12 h13 h14
theorem ar_lk3 {tv : Nat → Int32} {nv : Nat → Nat} {P : PS} : (lk3 tv nv P).2.2 = (lk2 P).2.2 := ar_range tv nv _
theorem ar_lk5 {tv : Nat → Int32} {nv : Nat → Nat} {k : Nat} {P : PS} (h28 : k ≠ 28) (h30 : k ≠ 30) (h31 : k ≠ 31) : (lk5 tv nv P).2.2.1 k = P.2.2.1 k := by
  unfold lk5; rw [ar_sign]
  show (if k = 31 then _ else (if k = 30 then _ else (lk3 tv nv P).2.2.1 k)) = _
  rw [if_neg h31, if_neg h30, ar_lk3]
  show (if k = 28 then _ else (sp_name P).2.2.1 k) = _
  rw [if_neg h28, ar_name]
theorem tkv_congr {tv : Nat → Int32} {nv : Nat → Nat} {T : Nat} {ar ar' : Nat → Nat → Nat} (h : tkv tv nv T ar) (h7 : ar' 7 = ar 7) (h8 : ar' 8 = ar 8) (h9 : ar' 9 = ar 9) : tkv tv nv T ar' := by
  unfold tkv; rw [h7, h8, h9]; exact h
theorem tkv_lk5 {tv : Nat → Int32} {nv : Nat → Nat} {T : Nat} {P : PS} (h : tkv tv nv T P.2.2.1) : tkv tv nv T (lk5 tv nv P).2.2.1 :=
  tkv_congr h (ar_lk5 (by decide) (by decide) (by decide)) (ar_lk5 (by decide) (by decide) (by decide)) (ar_lk5 (by decide) (by decide) (by decide))
theorem okp_lk5 {tv : Nat → Int32} {nv : Nat → Nat} {T : Nat} {P : PS} (ho : okp T P) (h : tkv tv nv T P.2.2.1) : okp T (lk5 tv nv P) := by
  have o1 : okp T (sp_name P) := okp_name ho h
  have t1 : tkv tv nv T (lk2 P).2.2.1 := by
    refine tkv_congr (ar := (sp_name P).2.2.1) (by rw [ar_name]; exact h) ?_ ?_ ?_ <;> rfl
  have o2 : okp T (lk2 P) := o1
  have o3 : okp T (lk3 tv nv P) := okp_range o2 t1
  have t3 : tkv tv nv T (lk3 tv nv P).2.2.1 := by rw [ar_lk3]; exact t1
  have o4 : okp T (lk4 (lk3 tv nv P)) := o3
  refine okp_sign o4 (nv := nv) ?_
  refine tkv_congr t3 ?_ ?_ ?_ <;> rfl
theorem AB_lk5 {tv : Nat → Int32} {nv : Nat → Nat} {T : Nat} {P : PS} (ho : okp T P) (h : tkv tv nv T P.2.2.1) (hB : AB P) : AB (lk5 tv nv P) := by
  have hT := h.2.1.1
  have o1 : okp T (sp_name P) := okp_name ho h
  have b12 := o1.2
  have B2 : AB (lk2 P) := AB_ars (AB_of hB (by rw [ar_name])) (show _ < 1002 by omega)
  have t1 : tkv tv nv T (lk2 P).2.2.1 := by
    refine tkv_congr (ar := (sp_name P).2.2.1) (by rw [ar_name]; exact h) ?_ ?_ ?_ <;> rfl
  have o2 : okp T (lk2 P) := o1
  have rb3 := range_b (nv := nv) o2 t1
  have B3 : AB (lk3 tv nv P) := AB_of B2 (ar_range tv nv _)
  have B4 : AB (lk4 (lk3 tv nv P)) := AB_ars (AB_ars (AB_aos B3 rb3.2.2) rb3.1) rb3.2.1
  exact AB_of B4 (by unfold lk5; rw [ar_sign])
theorem z12_lk5 {tv : Nat → Int32} {nv : Nat → Nat} {P : PS} (h : (lk5 tv nv P).1 13 = 0) (hn : (sp_name P).1 13 = 0) : P.1 12 + 2 ≤ (lk5 tv nv P).1 12 := by
  have h1 := f_name hn
  have h2 : (sp_name P).1 12 ≤ (lk3 tv nv P).1 12 := z12_range tv nv (lk2 P)
  unfold lk5 at h ⊢
  have h3 := f_sign h
  rw [h3.2.2]
  show _ ≤ if (lk4 (lk3 tv nv P)).1 13 = 0 then (lk3 tv nv P).1 12 + 1 else _
  rw [if_pos h3.1]; omega
/-- a side on the right that is a name -/
def lkx (ft tv : Nat → Int32) (nv : Nat → Nat) (R : PS) : PS := lk_end (lk10 (lk9 tv nv R))
theorem lkx_z {ft tv : Nat → Int32} {nv : Nat → Nat} {R : PS} {k : Nat} (h12 : k ≠ 12) (h13 : k ≠ 13) (h14 : k ≠ 14) (h42 : k ≠ 42) (h43 : k ≠ 43) (h27 : k ≠ 27) : (lkx ft tv nv R).1 k = R.1 k := by
  show (if k = 27 then _ else (lk9 tv nv R).1 k) = _
  rw [if_neg h27]; unfold lk9; rw [zk_range h12 h13 h14 h42 h43]; exact zk_go h12 h13 h14
theorem lkx_27 {ft tv : Nat → Int32} {nv : Nat → Nat} {R : PS} : (lkx ft tv nv R).1 27 = R.1 27 + 1 := by
  show (lk9 tv nv R).1 27 + 1 = _
  unfold lk9; rw [zk_range (by decide) (by decide) (by decide) (by decide) (by decide)]; rfl
theorem lkx_ar {ft tv : Nat → Int32} {nv : Nat → Nat} {R : PS} {k : Nat} (h34 : k ≠ 34) (h35 : k ≠ 35) : (lkx ft tv nv R).2.2.1 k = R.2.2.1 k := by
  show (if k = 35 then _ else (if k = 34 then _ else (lk9 tv nv R).2.2.1 k)) = _
  rw [if_neg h35, if_neg h34]; unfold lk9; rw [ar_range]; rfl
theorem lkx_12 {ft tv : Nat → Int32} {nv : Nat → Nat} {R : PS} : (sp_go R).1 12 ≤ (lkx ft tv nv R).1 12 := z12_range tv nv (sp_go R)
theorem lkx_ok {ft tv : Nat → Int32} {nv : Nat → Nat} {T : Nat} {R : PS} (ho : okp T R) (ht : tkv tv nv T R.2.2.1) (hk : R.2.2.1 7 (R.1 12) = 1) : okp T (lkx ft tv nv R) ∧ tkv tv nv T (lkx ft tv nv R).2.2.1 := by
  have h1 : okp T (sp_go R) := okp_go ho (tk_next ht ho.2 (Or.inl hk))
  have h2 : okp T (lk9 tv nv R) := okp_range h1 ht
  exact ⟨h2, tkv_congr ht (lkx_ar (by decide) (by decide)) (lkx_ar (by decide) (by decide)) (lkx_ar (by decide) (by decide))⟩
theorem AB_lkx {ft tv : Nat → Int32} {nv : Nat → Nat} {T : Nat} {R : PS} (ho : okp T R) (ht : tkv tv nv T R.2.2.1) (hk : R.2.2.1 7 (R.1 12) = 1) (hB : AB R) : AB (lkx ft tv nv R) := by
  have h1 : okp T (sp_go R) := okp_go ho (tk_next ht ho.2 (Or.inl hk))
  have rb3 := range_b (nv := nv) h1 ht
  have B3 : AB (lk9 tv nv R) := AB_of hB (by unfold lk9; rw [ar_range]; rfl)
  exact AB_ars (AB_ars (AB_aos B3 rb3.2.2) rb3.1) rb3.2.1
theorem lk_nm_x {ft tv : Nat → Int32} {nv : Nat → Nat} {R : PS} : lk_nm ft tv nv R = if lk_pf ft R = none ∧ lk_if ft R = none then (if 0 < (lk7 R).1 13 then lk7 R else lkx ft tv nv (lk8 (lk7 R))) else lkx ft tv nv R := rfl
/-- what link() leaves as it was, and what it keeps -/
theorem link_keep {ft tv : Nat → Int32} {nv : Nat → Nat} {T : Nat} {P : PS} (ho : okp T P) (ht : tkv tv nv T P.2.2.1) (hB : AB P) (b18 : P.1 18 ≤ 200) (b37 : P.1 37 ≤ 700) :
    AB (sp_link ft tv nv P) ∧ okp T (sp_link ft tv nv P) ∧ tkv tv nv T (sp_link ft tv nv P).2.2.1 ∧ (∀ k, k ≠ 12 → k ≠ 13 → k ≠ 14 → k ≠ 42 → k ≠ 43 → k ≠ 27 → k ≠ 37 → (sp_link ft tv nv P).1 k = P.1 k) ∧ (∀ k, k ≠ 28 → k ≠ 30 → k ≠ 31 → k ≠ 32 → k ≠ 34 → k ≠ 35 → k ≠ 17 → k ≠ 36 → k ≠ 38 → (sp_link ft tv nv P).2.2.1 k = P.2.2.1 k) := by
  have hT := ht.2.1.1
  have B5 := AB_lk5 (nv := nv) ho ht hB
  have o5 := okp_lk5 (nv := nv) ho ht
  have t5 := tkv_lk5 (nv := nv) ht
  have z5 : ∀ k, k ≠ 12 → k ≠ 13 → k ≠ 14 → k ≠ 42 → k ≠ 43 → (lk5 tv nv P).1 k = P.1 k := fun k a b c d e => zk_lk5 a b c d e
  have a5 : ∀ k, k ≠ 28 → k ≠ 30 → k ≠ 31 → (lk5 tv nv P).2.2.1 k = P.2.2.1 k := fun k a b c => ar_lk5 a b c
  unfold sp_link
  split
  · exact ⟨AB_of hB (by rw [ar_name]), okp_name ho ht, by rw [ar_name]; exact ht, fun k a b c _ _ _ _ => zk_name a b c, fun k _ _ _ _ _ _ _ _ _ => by rw [ar_name]⟩
  split
  · exact ⟨B5, o5, t5, fun k a b c d e _ _ => z5 k a b c d e, fun k a b c _ _ _ _ _ _ => a5 k a b c⟩
  generalize lk5 tv nv P = Q at *
  have o6 : okp T (lk6 Q) := o5
  have b12 := o5.2
  have B6 : AB (lk6 Q) := AB_aos (AB_ars B5 (show _ < 1002 by omega)) (fun z hz => by cases hz)
  have t6 : tkv tv nv T (lk6 Q).2.2.1 := by refine tkv_congr t5 ?_ ?_ ?_ <;> rfl
  have a6 : ∀ k, k ≠ 28 → k ≠ 30 → k ≠ 31 → k ≠ 32 → (lk6 Q).2.2.1 k = P.2.2.1 k := fun k a b c d => by
    show (if k = 32 then _ else Q.2.2.1 k) = _
    rw [if_neg d]; exact a5 k a b c
  unfold lk_rt
  split
  · rename_i hsw
    have hk : (lk6 Q).2.2.1 7 ((lk6 Q).1 12) = 5 := hsw.elim sw_k sw_k
    refine ⟨AB_of B6 rfl, okp_go o6 (tk_next t6 o6.2 (Or.inr (Or.inr (Or.inr hk)))), t6, fun k a b c d e f _ => ?_, fun k a b c d _ _ _ _ _ => a6 k a b c d⟩
    show (if k = 27 then _ else (sp_go (lk6 Q)).1 k) = _
    rw [if_neg f, zk_go a b c]; exact z5 k a b c d e
  split
  · rename_i hnm
    have oR : okp T (lkr (lk6 Q)) := o6
    have q18 : Q.1 18 = P.1 18 := z5 18 (by decide) (by decide) (by decide) (by decide) (by decide)
    have q37 : Q.1 37 = P.1 37 := z5 37 (by decide) (by decide) (by decide) (by decide) (by decide)
    have BR : AB (lkr (lk6 Q)) := AB_ars (AB_ars B6 (show Q.1 18 < 201 by omega)) (show Q.1 37 < 701 by omega)
    have tR : tkv tv nv T (lkr (lk6 Q)).2.2.1 := by refine tkv_congr t6 ?_ ?_ ?_ <;> rfl
    have aR : ∀ k, k ≠ 28 → k ≠ 30 → k ≠ 31 → k ≠ 32 → k ≠ 17 → k ≠ 36 → (lkr (lk6 Q)).2.2.1 k = P.2.2.1 k := fun k a b c d e f => by
      show (if k = 36 then _ else (if k = 17 then _ else (lk6 Q).2.2.1 k)) = _
      rw [if_neg f, if_neg e]; exact a6 k a b c d
    have zR : ∀ k, k ≠ 12 → k ≠ 13 → k ≠ 14 → k ≠ 42 → k ≠ 43 → (lkr (lk6 Q)).1 k = P.1 k := z5
    have kR : (lkr (lk6 Q)).2.2.1 7 ((lkr (lk6 Q)).1 12) = 1 := hnm
    generalize lkr (lk6 Q) = R at *
    rw [lk_nm_x]
    have old : ∀ {X : PS}, AB X → okp T X → tkv tv nv T X.2.2.1 → X.2.2.1 7 (X.1 12) = 1 → (∀ k, k ≠ 12 → k ≠ 13 → k ≠ 14 → k ≠ 42 → k ≠ 43 → k ≠ 37 → X.1 k = P.1 k) → (∀ k, k ≠ 28 → k ≠ 30 → k ≠ 31 → k ≠ 32 → k ≠ 17 → k ≠ 36 → k ≠ 38 → X.2.2.1 k = P.2.2.1 k) → AB (lkx ft tv nv X) ∧ okp T (lkx ft tv nv X) ∧ tkv tv nv T (lkx ft tv nv X).2.2.1 ∧ (∀ k, k ≠ 12 → k ≠ 13 → k ≠ 14 → k ≠ 42 → k ≠ 43 → k ≠ 27 → k ≠ 37 → (lkx ft tv nv X).1 k = P.1 k) ∧ (∀ k, k ≠ 28 → k ≠ 30 → k ≠ 31 → k ≠ 32 → k ≠ 34 → k ≠ 35 → k ≠ 17 → k ≠ 36 → k ≠ 38 → (lkx ft tv nv X).2.2.1 k = P.2.2.1 k) := by
      intro X h0 h1 h2 h3 h4 h5
      have h6 := lkx_ok (ft := ft) h1 h2 h3
      exact ⟨AB_lkx h1 h2 h3 h0, h6.1, h6.2, fun k a b c d e f g => by rw [lkx_z a b c d e f]; exact h4 k a b c d e g, fun k a b c d e f g h i => by rw [lkx_ar e f]; exact h5 k a b c d g h i⟩
    split
    · have o7 : okp T (lk7 R) := okp_room oR
      have s7 : (lk7 R).2 = R.2 := ar_room _ _ _ _
      have z7 : ∀ k, k ≠ 12 → k ≠ 13 → k ≠ 14 → (lk7 R).1 k = R.1 k := fun k a b c => zk_room a b c
      split
      · refine ⟨AB_of BR (by rw [s7]), o7, by rw [s7]; exact tR, fun k a b c d e _ _ => by rw [z7 k a b c]; exact zR k a b c d e, fun k a b c d _ _ e f _ => by rw [s7]; exact aR k a b c d e f⟩
      · rename_i h13
        have e7 : lk7 R = R := (f_room (show (lk7 R).1 13 = 0 by omega)).2.2
        rw [e7]
        have r12 := oR.2
        refine old (X := lk8 R) (AB_of (AB_ars (k := 38) (i := R.1 37) (v := R.1 12) BR (show _ < 1002 by omega)) rfl) oR (by refine tkv_congr tR ?_ ?_ ?_ <;> rfl) kR (fun k a b c d e f => ?_) (fun k a b c d e f g => ?_)
        · show (if k = 37 then _ else R.1 k) = _
          rw [if_neg f]; exact zR k a b c d e
        · show (if k = 38 then _ else R.2.2.1 k) = _
          rw [if_neg g]; exact aR k a b c d e f
    · exact old BR oR tR kR (fun k a b c d e _ => zR k a b c d e) (fun k a b c d e f _ => aR k a b c d e f)
  · refine ⟨AB_of B6 (by show (sp_syntax (lk6 Q)).2.2 = _; rw [ar_syntax]), okp_syntax o6, by show tkv tv nv T (sp_syntax (lk6 Q)).2.2.1; rw [ar_syntax]; exact t6, fun k a b c d e f _ => ?_, fun k a b c d _ _ _ _ _ => by show (sp_syntax (lk6 Q)).2.2.1 k = _; rw [ar_syntax]; exact a6 k a b c d⟩
    show (if k = 27 then _ else (sp_syntax (lk6 Q)).1 k) = _
    rw [if_neg f, zk_syntax a b c]; exact z5 k a b c d e
theorem ci_x {ft tv : Nat → Int32} {nv : Nat → Nat} {R : PS} (h15 : 1 ≤ R.1 15 ∧ R.1 15 ≤ 8) (h18 : R.1 18 ≤ 200) (h37 : R.2.2.1 36 (R.1 15 - 1) ≤ R.1 37 ∧ R.1 37 ≤ R.2.2.1 36 (R.1 15 - 1) + 30 ∧ R.2.2.1 36 (R.1 15 - 1) ≤ 30 * (R.1 15 - 1)) (h27 : 3 * (R.1 27 + 1) ≤ R.1 12 + 1) (hz : R.1 13 = 0) : ci (lkx ft tv nv R) := by
  have z := fun k a b c d e f => lkx_z (ft := ft) (tv := tv) (nv := nv) (R := R) (k := k) a b c d e f
  have e15 := z 15 (by decide) (by decide) (by decide) (by decide) (by decide) (by decide)
  have e18 := z 18 (by decide) (by decide) (by decide) (by decide) (by decide) (by decide)
  have e37 := z 37 (by decide) (by decide) (by decide) (by decide) (by decide) (by decide)
  have a36 := lkx_ar (ft := ft) (tv := tv) (nv := nv) (R := R) (k := 36) (by decide) (by decide)
  have g : (sp_go R).1 12 = R.1 12 + 1 := if_pos hz
  have h12 := lkx_12 (ft := ft) (tv := tv) (nv := nv) (R := R)
  unfold ci
  rw [e15, e18, e37, a36, lkx_27]
  exact ⟨h15, h18, h37, by omega, by omega⟩
theorem link_ci {ft tv : Nat → Int32} {nv : Nat → Nat} {T : Nat} {P : PS} (ho : okp T P) (ht : tkv tv nv T P.2.2.1) (hc : ci P) (h0 : (sp_link ft tv nv P).1 13 = 0) : ci (sp_link ft tv nv P) := by
  obtain ⟨c15, c18, c37, c27, c1⟩ := id hc
  have hfn : (sp_name P).1 13 = 0 := by
    unfold sp_link at h0
    split at h0
    · exact h0
    · omega
  have hf5 : (lk5 tv nv P).1 13 = 0 := by
    unfold sp_link at h0
    rw [if_neg (by omega)] at h0
    split at h0
    · exact h0
    · omega
  have h12 := z12_lk5 hf5 hfn
  have hT : T < 1002 := ht.2.1.1
  have hb5 : (lk5 tv nv P).1 12 ≤ T := (okp_lk5 (nv := nv) ho ht).2
  have z5 : ∀ k, k ≠ 12 → k ≠ 13 → k ≠ 14 → k ≠ 42 → k ≠ 43 → (lk5 tv nv P).1 k = P.1 k := fun k a b c d e => zk_lk5 a b c d e
  have a5 : ∀ k, k ≠ 28 → k ≠ 30 → k ≠ 31 → (lk5 tv nv P).2.2.1 k = P.2.2.1 k := fun k a b c => ar_lk5 a b c
  unfold sp_link at h0 ⊢
  rw [if_neg (by omega), if_neg (by omega)] at h0 ⊢
  generalize lk5 tv nv P = Q at *
  have e15 : (lk6 Q).1 15 = P.1 15 := z5 15 (by decide) (by decide) (by decide) (by decide) (by decide)
  have e18 : (lk6 Q).1 18 = P.1 18 := z5 18 (by decide) (by decide) (by decide) (by decide) (by decide)
  have e37 : (lk6 Q).1 37 = P.1 37 := z5 37 (by decide) (by decide) (by decide) (by decide) (by decide)
  have e27 : (lk6 Q).1 27 = P.1 27 := z5 27 (by decide) (by decide) (by decide) (by decide) (by decide)
  have a6 : ∀ k, k ≠ 28 → k ≠ 30 → k ≠ 31 → k ≠ 32 → (lk6 Q).2.2.1 k = P.2.2.1 k := fun k a b c d => by
    show (if k = 32 then _ else Q.2.2.1 k) = _
    rw [if_neg d]; exact a5 k a b c
  have b36 := a6 36 (by decide) (by decide) (by decide) (by decide)
  have hz6 : (lk6 Q).1 13 = 0 := hf5
  have h126 : P.1 12 + 2 ≤ (lk6 Q).1 12 := h12
  have hb6 : (lk6 Q).1 12 ≤ T := hb5
  generalize lk6 Q = X at *
  unfold lk_rt at h0 ⊢
  by_cases hsw : sw tv (nI 4) X = true ∨ sw tv (nI 5) X = true
  · rw [if_pos hsw] at h0 ⊢
    have g : (sp_go X).1 12 = X.1 12 + 1 := if_pos hz6
    refine ⟨?_, ?_, ?_, ?_, ?_⟩
    · show 1 ≤ X.1 15 ∧ X.1 15 ≤ 8; rw [e15]; exact c15
    · show X.1 18 ≤ 200; rw [e18]; exact c18
    · show X.2.2.1 36 (X.1 15 - 1) ≤ X.1 37 ∧ X.1 37 ≤ X.2.2.1 36 (X.1 15 - 1) + 30 ∧ X.2.2.1 36 (X.1 15 - 1) ≤ 30 * (X.1 15 - 1)
      rw [e15, e37, b36]; exact c37
    · show 3 * (X.1 27 + 1) ≤ (sp_go X).1 12; rw [g, e27]; omega
    · show 1 ≤ (sp_go X).1 12; omega
  · rw [if_neg hsw] at h0 ⊢
    by_cases hnm : X.2.2.1 7 (X.1 12) = 1
    · rw [if_pos hnm, lk_nm_x] at h0 ⊢
      have r15 : (lkr X).1 15 = P.1 15 := e15
      have r18 : (lkr X).1 18 = P.1 18 := e18
      have r37 : (lkr X).1 37 = P.1 37 := e37
      have r27 : (lkr X).1 27 = P.1 27 := e27
      have r12 : (lkr X).1 12 = X.1 12 := rfl
      have r13 : (lkr X).1 13 = 0 := hz6
      have r36 : ∀ j, (lkr X).2.2.1 36 j = if j = X.1 15 then X.1 37 else X.2.2.1 36 j := fun j => rfl
      have v37 : (lkr X).2.2.1 36 ((lkr X).1 15 - 1) ≤ (lkr X).1 37 ∧ (lkr X).1 37 ≤ (lkr X).2.2.1 36 ((lkr X).1 15 - 1) + 30 ∧ (lkr X).2.2.1 36 ((lkr X).1 15 - 1) ≤ 30 * ((lkr X).1 15 - 1) := by
        rw [r36, r15, r37, e15, if_neg (by omega), b36]; exact c37
      generalize lkr X = R at *
      by_cases hnew : lk_pf ft R = none ∧ lk_if ft R = none
      · rw [if_pos hnew] at h0 ⊢
        by_cases h7 : 0 < (lk7 R).1 13
        · rw [if_pos h7] at h0; omega
        · rw [if_neg h7] at h0 ⊢
          have f7 := f_room (show (lk7 R).1 13 = 0 by omega)
          have e7 : lk7 R = R := f7.2.2
          rw [e7]
          refine ci_x (R := lk8 R) ?_ ?_ ?_ ?_ ?_
          · show 1 ≤ R.1 15 ∧ R.1 15 ≤ 8; rw [r15]; exact c15
          · show R.1 18 ≤ 200; rw [r18]; exact c18
          · show R.2.2.1 36 (R.1 15 - 1) ≤ R.1 37 + 1 ∧ R.1 37 + 1 ≤ R.2.2.1 36 (R.1 15 - 1) + 30 ∧ R.2.2.1 36 (R.1 15 - 1) ≤ 30 * (R.1 15 - 1)
            have := f7.2.1
            omega
          · show 3 * (R.1 27 + 1) ≤ R.1 12 + 1; rw [r27, r12]; omega
          · exact r13
      · rw [if_neg hnew] at h0 ⊢
        refine ci_x (R := R) ?_ ?_ v37 ?_ r13
        · rw [r15]; exact c15
        · rw [r18]; exact c18
        · rw [r27, r12]; omega
    · rw [if_neg hnm] at h0
      have : (sp_syntax X).1 13 = 0 := h0
      exact absurd this (by have := sp_syntax_f X; omega)
theorem link_12 {ft tv : Nat → Int32} {nv : Nat → Nat} {P : PS} (h0 : (sp_link ft tv nv P).1 13 = 0) : P.1 12 + 3 ≤ (sp_link ft tv nv P).1 12 := by
  have hfn : (sp_name P).1 13 = 0 := by
    unfold sp_link at h0
    split at h0
    · exact h0
    · omega
  have hf5 : (lk5 tv nv P).1 13 = 0 := by
    unfold sp_link at h0
    rw [if_neg (by omega)] at h0
    split at h0
    · exact h0
    · omega
  have h12 := z12_lk5 hf5 hfn
  unfold sp_link at h0 ⊢
  rw [if_neg (by omega), if_neg (by omega)] at h0 ⊢
  generalize lk5 tv nv P = Q at *
  have hz6 : (lk6 Q).1 13 = 0 := hf5
  have h126 : P.1 12 + 2 ≤ (lk6 Q).1 12 := h12
  generalize lk6 Q = X at *
  have gx : (sp_go X).1 12 = X.1 12 + 1 := if_pos hz6
  unfold lk_rt at h0 ⊢
  by_cases hsw : sw tv (nI 4) X = true ∨ sw tv (nI 5) X = true
  · rw [if_pos hsw]
    show P.1 12 + 3 ≤ (sp_go X).1 12; omega
  · rw [if_neg hsw] at h0 ⊢
    by_cases hnm : X.2.2.1 7 (X.1 12) = 1
    · rw [if_pos hnm, lk_nm_x] at h0 ⊢
      have r12 : (lkr X).1 12 = X.1 12 := rfl
      have r13 : (lkr X).1 13 = 0 := hz6
      generalize lkr X = R at *
      have hx : ∀ {Y : PS}, Y.1 12 = X.1 12 → Y.1 13 = 0 → P.1 12 + 3 ≤ (lkx ft tv nv Y).1 12 := by
        intro Y h1 h2
        have := lkx_12 (ft := ft) (tv := tv) (nv := nv) (R := Y)
        have g : (sp_go Y).1 12 = Y.1 12 + 1 := if_pos h2
        omega
      by_cases hnew : lk_pf ft R = none ∧ lk_if ft R = none
      · rw [if_pos hnew] at h0 ⊢
        by_cases h7 : 0 < (lk7 R).1 13
        · rw [if_pos h7] at h0; omega
        · rw [if_neg h7] at h0 ⊢
          have e7 : lk7 R = R := (f_room (show (lk7 R).1 13 = 0 by omega)).2.2
          rw [e7]
          exact hx (Y := lk8 R) r12 r13
      · rw [if_neg hnew] at h0 ⊢
        exact hx r12 r13
    · rw [if_neg hnm] at h0
      have : (sp_syntax X).1 13 = 0 := h0
      exact absurd this (by have := sp_syntax_f X; omega)
/-! pinList, part -/
/-- the pins' list: what it leaves as it was, and what it keeps -/
theorem pl_q1_ok {tv : Nat → Int32} {nv : Nat → Nat} {T : Nat} {ob : Bool} {P : PS} (ho : okp T P) (ht : tkv tv nv T P.2.2.1) (hB : AB P) (hk : P.2.2.1 7 (P.1 12) = 1) : AB (pl_q1 ob P) ∧ okp T (pl_q1 ob P) ∧ tkv tv nv T (pl_q1 ob P).2.2.1 := by
  have hT := ht.2.1.1
  have b12 := ho.2
  have B1 : AB (pl_put ob P) := AB_ars (AB_aos (AB_abs (AB_ars (k := 20) (i := P.1 18) (v := P.1 12) hB (show _ < 1002 by omega))) (fun z hz => by cases hz)) (show 1 < 17 by decide)
  have t1 : tkv tv nv T (pl_put ob P).2.2.1 := by refine tkv_congr ht ?_ ?_ ?_ <;> rfl
  have o1 : okp T (pl_put ob P) := ho
  exact ⟨AB_of B1 rfl, okp_go o1 (tk_next t1 o1.2 (Or.inl hk)), t1⟩
theorem pl_q1_k {ob : Bool} {P : PS} {k : Nat} (h12 : k ≠ 12) (h13 : k ≠ 13) (h14 : k ≠ 14) : (pl_q1 ob P).1 k = P.1 k := by
  unfold pl_q1; rw [zk_go h12 h13 h14]; rfl
theorem pl_q1_a {ob : Bool} {P : PS} {k : Nat} (h20 : k ≠ 20) (h21 : k ≠ 21) : (pl_q1 ob P).2.2.1 k = P.2.2.1 k := by
  show (if k = 21 then _ else (if k = 20 then _ else P.2.2.1 k)) = _
  rw [if_neg h21, if_neg h20]
theorem pl_q3_ok {tv : Nat → Int32} {nv : Nat → Nat} {T : Nat} {ob : Bool} {P : PS} (ho : okp T P) (ht : tkv tv nv T P.2.2.1) (hB : AB P) (hk : P.2.2.1 7 (P.1 12) = 1) (hs : sg tv (nI 91) (pl_q1 ob P) = true) : AB (pl_q3 tv ob P) ∧ okp T (pl_q3 tv ob P) ∧ tkv tv nv T (pl_q3 tv ob P).2.2.1 := by
  have hT := ht.2.1.1
  obtain ⟨B1, o1, t1⟩ := pl_q1_ok (ob := ob) ho ht hB hk
  have o2 : okp T (sp_go (pl_q1 ob P)) := okp_go o1 (tk_next t1 o1.2 (Or.inr (Or.inr (Or.inl (sg_k hs)))))
  have o3 : okp T (pl_q2 ob P) := okp_number o2 t1
  have e3 : (pl_q2 ob P).2 = (pl_q1 ob P).2 := by unfold pl_q2; rw [ar_number]; rfl
  have B3 : AB (pl_q2 ob P) := AB_of B1 (by rw [e3])
  have b12 := o3.2
  have B4 := AB_aos (k := 22) (i := (sp_go (pl_q1 ob P)).1 18) (v := some ((pl_q2 ob P).1 12 - 1)) B3 (fun z hz => by cases hz; omega)
  have t4 : tkv tv nv T (aos (pl_q2 ob P) 22 ((sp_go (pl_q1 ob P)).1 18) (some ((pl_q2 ob P).1 12 - 1))).2.2.1 := by
    show tkv tv nv T (pl_q2 ob P).2.2.1; rw [e3]; exact t1
  have o4 : okp T (aos (pl_q2 ob P) 22 ((sp_go (pl_q1 ob P)).1 18) (some ((pl_q2 ob P).1 12 - 1))) := o3
  exact ⟨AB_of B4 (by unfold pl_q3; rw [ar_sign]), okp_sign o4 t4, by unfold pl_q3; rw [ar_sign]; exact t4⟩
theorem pl_q3_k {tv : Nat → Int32} {ob : Bool} {P : PS} {k : Nat} (h12 : k ≠ 12) (h13 : k ≠ 13) (h14 : k ≠ 14) : (pl_q3 tv ob P).1 k = P.1 k := by
  unfold pl_q3; rw [zk_sign h12 h13 h14]
  show (pl_q2 ob P).1 k = _
  unfold pl_q2; rw [zk_number h12 h13 h14, zk_go h12 h13 h14, pl_q1_k h12 h13 h14]
theorem pl_q3_a {tv : Nat → Int32} {ob : Bool} {P : PS} {k : Nat} (h20 : k ≠ 20) (h21 : k ≠ 21) : (pl_q3 tv ob P).2.2.1 k = P.2.2.1 k := by
  unfold pl_q3; rw [ar_sign]
  show (pl_q2 ob P).2.2.1 k = _
  unfold pl_q2; rw [ar_number]; exact pl_q1_a h20 h21
theorem pl_wd_lt (w : Nat) : pl_wd w < 17 := by unfold pl_wd; split <;> omega
theorem pl_one_ok {tv : Nat → Int32} {nv : Nat → Nat} {T : Nat} {ob : Bool} {P : PS} (ho : okp T P) (ht : tkv tv nv T P.2.2.1) (hB : AB P) (hk : P.2.2.1 7 (P.1 12) = 1) :
    AB (pl_one tv nv ob P) ∧ okp T (pl_one tv nv ob P) ∧ tkv tv nv T (pl_one tv nv ob P).2.2.1 ∧ (∀ k, k ≠ 12 → k ≠ 13 → k ≠ 14 → k ≠ 18 → (pl_one tv nv ob P).1 k = P.1 k) ∧ (∀ k, k ≠ 20 → k ≠ 21 → (pl_one tv nv ob P).2.2.1 k = P.2.2.1 k) ∧ ((pl_one tv nv ob P).1 18 = P.1 18 + 1 ∨ ((pl_one tv nv ob P).1 18 = P.1 18 ∧ ¬ (pl_one tv nv ob P).1 13 = 0)) := by
  unfold pl_one
  split
  · rename_i hs
    obtain ⟨B3, o3, t3⟩ := pl_q3_ok ho ht hB hk hs
    have e18 : (pl_q3 tv ob P).1 18 = P.1 18 := pl_q3_k (by decide) (by decide) (by decide)
    split
    · refine ⟨?_, o3, ?_, fun k a b c d => ?_, fun k a b => ?_, Or.inl ?_⟩
      · exact AB_of (AB_ars (k := 21) (i := (pl_q3 tv ob P).1 18) (v := pl_wd (nv ((pl_q2 ob P).1 12 - 1))) B3 (pl_wd_lt _)) rfl
      · refine tkv_congr t3 ?_ ?_ ?_ <;> rfl
      · show (if k = 18 then _ else (pl_q3 tv ob P).1 k) = _
        rw [if_neg d]; exact pl_q3_k a b c
      · show (if k = 21 then _ else (pl_q3 tv ob P).2.2.1 k) = _
        rw [if_neg b]; exact pl_q3_a a b
      · show (pl_q3 tv ob P).1 18 + 1 = _; rw [e18]
    · rename_i h13
      exact ⟨B3, o3, t3, fun k a b c d => pl_q3_k a b c, fun k a b => pl_q3_a a b, Or.inr ⟨e18, h13⟩⟩
  · obtain ⟨B1, o1, t1⟩ := pl_q1_ok (ob := ob) ho ht hB hk
    refine ⟨AB_of B1 rfl, o1, t1, fun k a b c d => ?_, fun k a b => pl_q1_a a b, Or.inl ?_⟩
    · show (if k = 18 then _ else (pl_q1 ob P).1 k) = _
      rw [if_neg d]; exact pl_q1_k a b c
    · show (pl_q1 ob P).1 18 + 1 = _; rw [pl_q1_k (by decide) (by decide) (by decide)]
theorem pl_keep {tv : Nat → Int32} {nv : Nat → Nat} {T : Nat} {ob : Bool} : ∀ (k : Nat) (P : PS), okp T P → tkv tv nv T P.2.2.1 → AB P → P.2.2.1 17 (P.1 15 - 1) ≤ P.1 18 → P.1 18 ≤ P.2.2.1 17 (P.1 15 - 1) + 8 →
    AB (pl_loop tv nv ob k P) ∧ okp T (pl_loop tv nv ob k P) ∧ tkv tv nv T (pl_loop tv nv ob k P).2.2.1 ∧ (∀ k', k' ≠ 12 → k' ≠ 13 → k' ≠ 14 → k' ≠ 18 → (pl_loop tv nv ob k P).1 k' = P.1 k') ∧ (∀ k', k' ≠ 20 → k' ≠ 21 → (pl_loop tv nv ob k P).2.2.1 k' = P.2.2.1 k') ∧ (P.2.2.1 17 (P.1 15 - 1) ≤ (pl_loop tv nv ob k P).1 18 ∧ (pl_loop tv nv ob k P).1 18 ≤ P.2.2.1 17 (P.1 15 - 1) + 8)
  | 0, P, ho, ht, hB, h1, h2 => ⟨hB, ho, ht, fun _ _ _ _ _ => rfl, fun _ _ _ => rfl, h1, h2⟩
  | k + 1, P, ho, ht, hB, h1, h2 => by
    rw [pl_loop_s]
    split
    · rename_i hk
      split
      · rename_i hlt
        obtain ⟨B1, o1, t1, z1, a1, c1⟩ := pl_one_ok (ob := ob) ho ht hB hk
        have e15 := z1 15 (by decide) (by decide) (by decide) (by decide)
        have e17 := a1 17 (by decide) (by decide)
        generalize pl_one tv nv ob P = X at *
        split
        · rename_i h0
          split
          · rename_i hs
            have og : okp T (sp_go X) := okp_go o1 (tk_next t1 o1.2 (Or.inr (Or.inr (Or.inl (sg_k hs)))))
            have r := pl_keep (ob := ob) k (sp_go X) og t1 (AB_of B1 rfl) (by show X.2.2.1 17 (X.1 15 - 1) ≤ X.1 18; rw [e15, e17]; omega) (by show X.1 18 ≤ X.2.2.1 17 (X.1 15 - 1) + 8; rw [e15, e17]; omega)
            obtain ⟨r1, r2, r3, r4, r5, r6⟩ := r
            refine ⟨r1, r2, r3, fun k' a b c d => ?_, fun k' a b => ?_, ?_⟩
            · rw [r4 k' a b c d, zk_go a b c]; exact z1 k' a b c d
            · rw [r5 k' a b]; exact a1 k' a b
            · have e : (sp_go X).2.2.1 17 ((sp_go X).1 15 - 1) = P.2.2.1 17 (P.1 15 - 1) := by show X.2.2.1 17 (X.1 15 - 1) = _; rw [e15, e17]
              rw [e] at r6; exact r6
          · refine ⟨AB_of B1 (by rw [ar_sign]), okp_sign o1 t1, by rw [ar_sign]; exact t1, fun k' a b c d => by rw [zk_sign a b c]; exact z1 k' a b c d, fun k' a b => by rw [ar_sign]; exact a1 k' a b, ?_⟩
            rw [zk_sign (by decide) (by decide) (by decide)]; omega
        · exact ⟨B1, o1, t1, z1, a1, by omega⟩
      · refine ⟨AB_of hB (by rw [ar_wrong]), okp_wrong ho (by decide), by rw [ar_wrong]; exact ht, fun k' a b c d => zk_wrong b c, fun k' a b => by rw [ar_wrong], ?_⟩
        rw [zk_wrong (by decide) (by decide)]; omega
    · refine ⟨AB_of hB (by rw [ar_syntax]), okp_syntax ho, by rw [ar_syntax]; exact ht, fun k' a b c d => zk_syntax a b c, fun k' a b => by rw [ar_syntax], ?_⟩
      rw [zk_syntax (by decide) (by decide) (by decide)]; omega
theorem z12_syntax (P : PS) : P.1 12 ≤ (sp_syntax P).1 12 := by rw [sp_syntax_12]; exact Nat.le_refl _
theorem z12_word (tv : Nat → Int32) (c : Int32) (P : PS) : P.1 12 ≤ (sp_word tv c P).1 12 := by
  unfold sp_word; split
  · exact z12_go P
  · exact z12_syntax P
/-- rows 17 and 36 of link(): only at the number of the chips -/
theorem link_17 {ft tv : Nat → Int32} {nv : Nat → Nat} {P : PS} {k j : Nat} (hk : k = 17 ∨ k = 36) (hj : j ≠ P.1 15) : (sp_link ft tv nv P).2.2.1 k j = P.2.2.1 k j := by
  have n28 : k ≠ 28 := by omega
  have n30 : k ≠ 30 := by omega
  have n31 : k ≠ 31 := by omega
  have n32 : k ≠ 32 := by omega
  have n34 : k ≠ 34 := by omega
  have n35 : k ≠ 35 := by omega
  have n38 : k ≠ 38 := by omega
  have z5 : (lk5 tv nv P).1 15 = P.1 15 := zk_lk5 (by decide) (by decide) (by decide) (by decide) (by decide)
  have a5 : (lk5 tv nv P).2.2.1 k = P.2.2.1 k := ar_lk5 n28 n30 n31
  unfold sp_link
  split
  · rw [ar_name]
  split
  · rw [a5]
  generalize lk5 tv nv P = Q at *
  have a6 : (lk6 Q).2.2.1 k = P.2.2.1 k := by
    show (if k = 32 then _ else Q.2.2.1 k) = _
    rw [if_neg n32]; exact a5
  have z6 : (lk6 Q).1 15 = P.1 15 := z5
  generalize lk6 Q = X at *
  unfold lk_rt
  split
  · show X.2.2.1 k j = _; rw [a6]
  split
  · have aR : (lkr X).2.2.1 k j = P.2.2.1 k j := by
      rcases hk with rfl | rfl
      · show (if j = X.1 15 then _ else X.2.2.1 17 j) = _
        rw [if_neg (by rw [z6]; exact hj), a6]
      · show (if j = X.1 15 then _ else X.2.2.1 36 j) = _
        rw [if_neg (by rw [z6]; exact hj), a6]
    generalize lkr X = R at *
    rw [lk_nm_x]
    have s7 : (lk7 R).2 = R.2 := ar_room _ _ _ _
    split
    · split
      · rw [s7]; exact aR
      · rename_i h7
        have e7 : lk7 R = R := (f_room (show (lk7 R).1 13 = 0 by omega)).2.2
        rw [lkx_ar n34 n35, e7]
        show (if k = 38 then _ else R.2.2.1 k) j = _
        rw [if_neg n38]; exact aR
    · rw [lkx_ar n34 n35]; exact aR
  · show (sp_syntax X).2.2.1 k j = _; rw [ar_syntax, a6]
/-! part() -/
def pt1 (P : PS) : PS := sp_room (P.1 24 - P.2.2.1 23 (P.1 15 - 1)) 12 (P.1 12) P
def pt2 (R : PS) : PS := zs (ars (ars R 25 (R.1 24) (R.1 12)) 26 (R.1 24) (R.1 27)) 24 (R.1 24 + 1)
def pt3 (tv : Nat → Int32) (R : PS) : PS := sp_sign tv (nI 40) (sp_go (pt2 R))
def pt_loop (ft tv : Nat → Int32) (nv : Nat → Nat) : Nat → PS → PS
  | 0, P => P
  | k + 1, P => if P.1 13 = 0 then (if sg tv (nI 44) (sp_link ft tv nv P) = true then pt_loop ft tv nv k (sp_go (sp_link ft tv nv P)) else sp_link ft tv nv P) else P
theorem pt_loop_s (ft tv : Nat → Int32) (nv : Nat → Nat) (k : Nat) (P : PS) : pt_loop ft tv nv (k + 1) P = if P.1 13 = 0 then (if sg tv (nI 44) (sp_link ft tv nv P) = true then pt_loop ft tv nv k (sp_go (sp_link ft tv nv P)) else sp_link ft tv nv P) else P := rfl
theorem pt_loop_e {ft tv : Nat → Int32} {nv : Nat → Nat} {k : Nat} {P : PS} (h : ¬ P.1 13 = 0) : pt_loop ft tv nv k P = P := by
  cases k with
  | zero => rfl
  | succ k => rw [pt_loop_s, if_neg h]
def sp_part (ft tv : Nat → Int32) (nv : Nat → Nat) (P : PS) : PS :=
  if P.2.2.1 7 (P.1 12) = 1 then (if 0 < (pt1 P).1 13 then pt1 P else sp_sign tv (nI 59) (sp_sign tv (nI 41) (pt_loop ft tv nv 1002 (pt3 tv (pt1 P))))) else sp_syntax P
/-- the rows that a part's links change -/
def nl (k : Nat) : Prop := k ≠ 28 ∧ k ≠ 30 ∧ k ≠ 31 ∧ k ≠ 32 ∧ k ≠ 34 ∧ k ≠ 35 ∧ k ≠ 17 ∧ k ≠ 36 ∧ k ≠ 38
def nz (k : Nat) : Prop := k ≠ 12 ∧ k ≠ 13 ∧ k ≠ 14 ∧ k ≠ 42 ∧ k ≠ 43 ∧ k ≠ 27 ∧ k ≠ 37
theorem ci_go {P : PS} (h : ci P) : ci (sp_go P) := by
  obtain ⟨h1, h2, h3, h4, h5⟩ := h
  have := z12_go P
  exact ⟨h1, h2, h3, Nat.le_trans h4 this, Nat.le_trans h5 this⟩
theorem ci_b {P : PS} (h : ci P) : P.1 18 ≤ 200 ∧ P.1 37 ≤ 700 := by
  obtain ⟨h1, h2, ⟨h3, h4, h5⟩, -⟩ := h
  omega
theorem pt_keep {ft tv : Nat → Int32} {nv : Nat → Nat} {T : Nat} : ∀ (k : Nat) (P : PS), okp T P → tkv tv nv T P.2.2.1 → AB P → (P.1 13 = 0 → ci P) →
    AB (pt_loop ft tv nv k P) ∧ okp T (pt_loop ft tv nv k P) ∧ tkv tv nv T (pt_loop ft tv nv k P).2.2.1 ∧ (∀ k', nz k' → (pt_loop ft tv nv k P).1 k' = P.1 k') ∧ (∀ k', nl k' → (pt_loop ft tv nv k P).2.2.1 k' = P.2.2.1 k') ∧ (∀ k' j, k' = 17 ∨ k' = 36 → j ≠ P.1 15 → (pt_loop ft tv nv k P).2.2.1 k' j = P.2.2.1 k' j) ∧ ((pt_loop ft tv nv k P).1 13 = 0 → ci (pt_loop ft tv nv k P) ∧ P.1 12 ≤ (pt_loop ft tv nv k P).1 12)
  | 0, P, ho, ht, hB, hc => ⟨hB, ho, ht, fun _ _ => rfl, fun _ _ => rfl, fun _ _ _ _ => rfl, fun h => ⟨hc h, Nat.le_refl _⟩⟩
  | k + 1, P, ho, ht, hB, hc => by
    by_cases h0 : P.1 13 = 0
    · rw [pt_loop_s, if_pos h0]
      obtain ⟨b18, b37⟩ := ci_b (hc h0)
      obtain ⟨B1, o1, t1, z1, a1⟩ := link_keep (ft := ft) ho ht hB b18 b37
      have c1 := link_ci (ft := ft) ho ht (hc h0)
      have x1 := fun k' j hk hj => link_17 (ft := ft) (tv := tv) (nv := nv) (P := P) (k := k') (j := j) hk hj
      have y1 := link_12 (ft := ft) (tv := tv) (nv := nv) (P := P)
      generalize sp_link ft tv nv P = X at *
      have z1' : ∀ k', nz k' → X.1 k' = P.1 k' := fun k' h => z1 k' h.1 h.2.1 h.2.2.1 h.2.2.2.1 h.2.2.2.2.1 h.2.2.2.2.2.1 h.2.2.2.2.2.2
      have a1' : ∀ k', nl k' → X.2.2.1 k' = P.2.2.1 k' := fun k' h => a1 k' h.1 h.2.1 h.2.2.1 h.2.2.2.1 h.2.2.2.2.1 h.2.2.2.2.2.1 h.2.2.2.2.2.2.1 h.2.2.2.2.2.2.2.1 h.2.2.2.2.2.2.2.2
      have e15 : X.1 15 = P.1 15 := z1' 15 (by unfold nz; decide)
      by_cases hs : sg tv (nI 44) X = true
      · rw [if_pos hs]
        have og : okp T (sp_go X) := okp_go o1 (tk_next t1 o1.2 (Or.inr (Or.inr (Or.inl (sg_k hs)))))
        have r := pt_keep (ft := ft) k (sp_go X) og t1 (AB_of B1 rfl) (fun h => ci_go (c1 h))
        obtain ⟨r1, r2, r3, r4, r5, r6, r7⟩ := r
        refine ⟨r1, r2, r3, fun k' h => ?_, fun k' h => ?_, fun k' j hk hj => ?_, fun h => ?_⟩
        · rw [r4 k' h, zk_go h.1 h.2.1 h.2.2.1]; exact z1' k' h
        · rw [r5 k' h]; exact a1' k' h
        · rw [r6 k' j hk (show j ≠ X.1 15 by rw [e15]; exact hj)]; exact x1 k' j hk hj
        · by_cases hx : X.1 13 = 0
          · have := z12_go X
            have := y1 hx
            exact ⟨(r7 h).1, by have := (r7 h).2; omega⟩
          · rw [pt_loop_e (P := sp_go X) hx] at h
            exact absurd h hx
      · rw [if_neg hs]
        exact ⟨B1, o1, t1, z1', a1', x1, fun h => ⟨c1 h, by have := y1 h; omega⟩⟩
    · rw [pt_loop_e h0]
      exact ⟨hB, ho, ht, fun _ _ => rfl, fun _ _ => rfl, fun _ _ _ _ => rfl, fun h => absurd h h0⟩
/-- what holds inside a chip while no fault is found -/
def cb (P : PS) : Prop := ci P ∧ (P.2.2.1 23 (P.1 15 - 1) ≤ P.1 24 ∧ P.1 24 ≤ P.2.2.1 23 (P.1 15 - 1) + 12 ∧ P.2.2.1 23 (P.1 15 - 1) ≤ 12 * (P.1 15 - 1)) ∧ (P.2.2.1 17 (P.1 15 - 1) ≤ P.1 18 ∧ P.1 18 ≤ P.2.2.1 17 (P.1 15 - 1) + 8 ∧ P.2.2.1 17 (P.1 15 - 1) ≤ 8 * (P.1 15 - 1))
theorem ci_sign {tv : Nat → Int32} {c : Int32} {P : PS} (h : ci P) : ci (sp_sign tv c P) := by
  obtain ⟨h1, h2, h3, h4, h5⟩ := h
  have := z12_sign tv c P
  unfold ci
  rw [ar_sign, zk_sign (k := 15) (by decide) (by decide) (by decide), zk_sign (k := 18) (by decide) (by decide) (by decide), zk_sign (k := 37) (by decide) (by decide) (by decide), zk_sign (k := 27) (by decide) (by decide) (by decide)]
  exact ⟨h1, h2, h3, Nat.le_trans h4 this, Nat.le_trans h5 this⟩
theorem pt3_ok {tv : Nat → Int32} {nv : Nat → Nat} {T : Nat} {P : PS} (ho : okp T P) (ht : tkv tv nv T P.2.2.1) (hB : AB P) (hc : ci P) (hk : P.2.2.1 7 (P.1 12) = 1) (h24 : P.1 24 ≤ 400) :
    AB (pt3 tv P) ∧ okp T (pt3 tv P) ∧ tkv tv nv T (pt3 tv P).2.2.1 ∧ ci (pt3 tv P) ∧ (∀ k, k ≠ 12 → k ≠ 13 → k ≠ 14 → k ≠ 24 → (pt3 tv P).1 k = P.1 k) ∧ (pt3 tv P).1 24 = P.1 24 + 1 ∧ (∀ k, k ≠ 25 → k ≠ 26 → (pt3 tv P).2.2.1 k = P.2.2.1 k) ∧ P.1 12 ≤ (pt3 tv P).1 12 := by
  have hT := ht.2.1.1
  have b12 := ho.2
  have b27 : P.1 27 < 701 := by have := hc.2.2.2.1; omega
  have B2 : AB (pt2 P) := AB_of (AB_ars (k := 26) (i := P.1 24) (v := P.1 27) (AB_ars (k := 25) (i := P.1 24) (v := P.1 12) hB (show _ < 1002 by omega)) b27) rfl
  have o2 : okp T (pt2 P) := ho
  have t2 : tkv tv nv T (pt2 P).2.2.1 := by refine tkv_congr ht ?_ ?_ ?_ <;> rfl
  have c2 : ci (pt2 P) := hc
  have og : okp T (sp_go (pt2 P)) := okp_go o2 (tk_next t2 o2.2 (Or.inl hk))
  unfold pt3
  refine ⟨AB_of B2 (by rw [ar_sign]; rfl), okp_sign og t2, by rw [ar_sign]; exact t2, ci_sign (ci_go c2), fun k a b c d => ?_, ?_, fun k a b => ?_, ?_⟩
  · rw [zk_sign a b c, zk_go a b c]
    show (if k = 24 then _ else P.1 k) = _
    rw [if_neg d]
  · rw [zk_sign (by decide) (by decide) (by decide)]; rfl
  · rw [ar_sign]
    show (if k = 26 then _ else (if k = 25 then _ else P.2.2.1 k)) = _
    rw [if_neg b, if_neg a]
  · exact Nat.le_trans (z12_go (pt2 P)) (z12_sign tv _ _)
/-- a part: what it leaves, what it keeps -/
theorem part_keep {ft tv : Nat → Int32} {nv : Nat → Nat} {T : Nat} {P : PS} (ho : okp T P) (ht : tkv tv nv T P.2.2.1) (hB : AB P) (h0 : P.1 13 = 0) (hc : cb P) :
    AB (sp_part ft tv nv P) ∧ okp T (sp_part ft tv nv P) ∧ tkv tv nv T (sp_part ft tv nv P).2.2.1 ∧ (∀ k, nz k → k ≠ 24 → (sp_part ft tv nv P).1 k = P.1 k) ∧ (∀ k, nl k → k ≠ 25 → k ≠ 26 → (sp_part ft tv nv P).2.2.1 k = P.2.2.1 k) ∧ (∀ k j, k = 17 ∨ k = 36 → j ≠ P.1 15 → (sp_part ft tv nv P).2.2.1 k j = P.2.2.1 k j) ∧ ((sp_part ft tv nv P).1 13 = 0 → cb (sp_part ft tv nv P) ∧ P.1 12 < (sp_part ft tv nv P).1 12) := by
  obtain ⟨hci, h24, h18⟩ := hc
  unfold sp_part
  by_cases hk : P.2.2.1 7 (P.1 12) = 1
  · rw [if_pos hk]
    have o1 : okp T (pt1 P) := okp_room ho
    have s1 : (pt1 P).2 = P.2 := ar_room _ _ _ _
    by_cases h13 : 0 < (pt1 P).1 13
    · rw [if_pos h13]
      refine ⟨AB_of hB (by rw [s1]), o1, by rw [s1]; exact ht, fun k h _ => zk_room h.1 h.2.1 h.2.2.1, fun k _ _ _ => by rw [s1], fun k j _ _ => by rw [s1], fun h => by omega⟩
    · rw [if_neg h13]
      have f1 := f_room (show (pt1 P).1 13 = 0 by omega)
      have e1 : pt1 P = P := f1.2.2
      rw [e1]
      have lt := f1.2.1
      have c1 := hci.1
      obtain ⟨B3, o3, t3, c3, z3, z24, a3, y3⟩ := pt3_ok ho ht hB hci hk (by omega)
      have y3' : (pt3 tv P).1 13 = 0 → P.1 12 + 2 ≤ (pt3 tv P).1 12 := by
        intro h
        unfold pt3 at h ⊢
        have f3 := f_sign h
        rw [f3.2.2]
        have g1 : (sp_go (pt2 P)).1 12 = P.1 12 + 1 := if_pos h0
        show _ ≤ if (sp_go (pt2 P)).1 13 = 0 then (sp_go (pt2 P)).1 12 + 1 else _
        rw [if_pos f3.1, g1]; omega
      obtain ⟨r1, r2, r3, r4, r5, r6, r7⟩ := pt_keep (ft := ft) 1002 (pt3 tv P) o3 t3 B3 (fun _ => c3)
      have a15 : (pt3 tv P).1 15 = P.1 15 := z3 15 (by decide) (by decide) (by decide) (by decide)
      have e17 : (pt3 tv P).2.2.1 17 = P.2.2.1 17 := a3 17 (by decide) (by decide)
      have e36 : (pt3 tv P).2.2.1 36 = P.2.2.1 36 := a3 36 (by decide) (by decide)
      have e23 : (pt3 tv P).2.2.1 23 = P.2.2.1 23 := a3 23 (by decide) (by decide)
      have d18 : (pt3 tv P).1 18 = P.1 18 := z3 18 (by decide) (by decide) (by decide) (by decide)
      have hx : (pt_loop ft tv nv 1002 (pt3 tv P)).1 13 = 0 → P.1 12 + 2 ≤ (pt_loop ft tv nv 1002 (pt3 tv P)).1 12 := by
        intro h
        by_cases hp : (pt3 tv P).1 13 = 0
        · have := (r7 h).2
          have := y3' hp
          omega
        · rw [pt_loop_e hp] at h; exact absurd h hp
      generalize pt_loop ft tv nv 1002 (pt3 tv P) = X at *
      have x15 : X.1 15 = P.1 15 := (r4 15 (by unfold nz; decide)).trans a15
      have x18 : X.1 18 = P.1 18 := (r4 18 (by unfold nz; decide)).trans d18
      have x24 : X.1 24 = P.1 24 + 1 := (r4 24 (by unfold nz; decide)).trans z24
      have x23 : X.2.2.1 23 = P.2.2.1 23 := (r5 23 (by unfold nl; decide)).trans e23
      have x17 : ∀ j, j ≠ P.1 15 → X.2.2.1 17 j = P.2.2.1 17 j := fun j hj => by rw [r6 17 j (Or.inl rfl) (by rw [a15]; exact hj), e17]
      have x36 : ∀ j, j ≠ P.1 15 → X.2.2.1 36 j = P.2.2.1 36 j := fun j hj => by rw [r6 36 j (Or.inr rfl) (by rw [a15]; exact hj), e36]
      have s4 : (sp_sign tv (nI 59) (sp_sign tv (nI 41) X)).2 = X.2 := by rw [ar_sign, ar_sign]
      have o4 : okp T (sp_sign tv (nI 41) X) := okp_sign r2 r3
      have o5 : okp T (sp_sign tv (nI 59) (sp_sign tv (nI 41) X)) := okp_sign o4 (nv := nv) (by rw [ar_sign]; exact r3)
      have zz : ∀ k, k ≠ 12 → k ≠ 13 → k ≠ 14 → (sp_sign tv (nI 59) (sp_sign tv (nI 41) X)).1 k = X.1 k := fun k a b c => by rw [zk_sign a b c, zk_sign a b c]
      refine ⟨AB_of r1 (by rw [s4]), o5, by rw [s4]; exact r3, fun k h h24 => ?_, fun k h a b => ?_, fun k j hk hj => ?_, fun h => ?_⟩
      · rw [zz k h.1 h.2.1 h.2.2.1, r4 k h]; exact z3 k h.1 h.2.1 h.2.2.1 h24
      · rw [s4, r5 k h]; exact a3 k a b
      · rw [s4]
        rcases hk with rfl | rfl
        · exact x17 j hj
        · exact x36 j hj
      · have f5 := f_sign h
        have f4 := f_sign f5.1
        have hX := hx f4.1
        have m1 := z12_sign tv (nI 41) X
        have m2 := z12_sign tv (nI 59) (sp_sign tv (nI 41) X)
        refine ⟨⟨ci_sign (ci_sign (r7 f4.1).1), ?_, ?_⟩, by omega⟩
        · rw [s4, zz 15 (by decide) (by decide) (by decide), zz 24 (by decide) (by decide) (by decide), x15, x24, x23]; omega
        · rw [s4, zz 15 (by decide) (by decide) (by decide), zz 18 (by decide) (by decide) (by decide), x15, x18, x17 _ (by omega)]; exact h18
  · rw [if_neg hk]
    exact ⟨AB_of hB (by rw [ar_syntax]), okp_syntax ho, by rw [ar_syntax]; exact ht, fun k h _ => zk_syntax h.1 h.2.1 h.2.2.1, fun k _ _ _ => by rw [ar_syntax], fun k j _ _ => by rw [ar_syntax], fun h => absurd h (by have := sp_syntax_f P; omega)⟩
/-! chip(), chipTexts() -/
def ch1 (tv : Nat → Int32) (P : PS) : PS := sp_word tv (nI 0) P
def ch2 (tv : Nat → Int32) (P : PS) : PS := if (ch1 tv P).1 13 = 0 ∧ ¬ (ch1 tv P).2.2.1 7 ((ch1 tv P).1 12) = 1 then sp_syntax (ch1 tv P) else ch1 tv P
def ch3 (tv : Nat → Int32) (P : PS) : PS := if (ch2 tv P).1 13 = 0 then sp_room ((ch2 tv P).1 15) 8 ((ch2 tv P).1 12) (ch2 tv P) else ch2 tv P
def ch4 (R : PS) : PS := zs (ars (ars (ars (ars R 16 (R.1 15) (R.1 12)) 17 (R.1 15) (R.1 18)) 23 (R.1 15) (R.1 24)) 36 (R.1 15) (R.1 37)) 15 (R.1 15 + 1)
def ch5 (tv : Nat → Int32) (R : PS) : PS := sp_word tv (nI 1) (sp_sign tv (nI 123) (sp_go (ch4 R)))
def ch_pl (tv : Nat → Int32) (nv : Nat → Nat) (ob : Bool) (X : PS) : PS := if X.1 13 = 0 then pl_loop tv nv ob 1002 X else X
def ch6 (tv : Nat → Int32) (nv : Nat → Nat) (R : PS) : PS := sp_word tv (nI 2) (ch_pl tv nv false (ch5 tv R))
def ch7 (tv : Nat → Int32) (nv : Nat → Nat) (R : PS) : PS := sp_sign tv (nI 58) (sp_word tv (nI 3) (ch_pl tv nv true (ch6 tv nv R)))
def ch_loop (ft tv : Nat → Int32) (nv : Nat → Nat) : Nat → PS → PS
  | 0, P => P
  | k + 1, P => if P.1 13 = 0 ∧ sg tv (nI 125) P = false then ch_loop ft tv nv k (sp_part ft tv nv P) else P
theorem ch_loop_s (ft tv : Nat → Int32) (nv : Nat → Nat) (k : Nat) (P : PS) : ch_loop ft tv nv (k + 1) P = if P.1 13 = 0 ∧ sg tv (nI 125) P = false then ch_loop ft tv nv k (sp_part ft tv nv P) else P := rfl
theorem ch_loop_e {ft tv : Nat → Int32} {nv : Nat → Nat} {k : Nat} {P : PS} (h : ¬ P.1 13 = 0) : ch_loop ft tv nv k P = P := by
  cases k with
  | zero => rfl
  | succ k => rw [ch_loop_s, if_neg (fun q => h q.1)]
def sp_chip (ft tv : Nat → Int32) (nv : Nat → Nat) (P : PS) : PS :=
  if 0 < (ch3 tv P).1 13 then ch3 tv P else sp_sign tv (nI 125) (ch_loop ft tv nv 1002 (ch7 tv nv (ch3 tv P)))
/-- what holds between two chips while no fault is found -/
def ct (P : PS) : Prop := P.1 15 ≤ 8 ∧ P.1 18 ≤ 8 * P.1 15 ∧ P.1 24 ≤ 12 * P.1 15 ∧ P.1 37 ≤ 30 * P.1 15 ∧ 3 * P.1 27 ≤ P.1 12
theorem cb_ct {P : PS} (h : cb P) : ct P := by
  obtain ⟨⟨h1, h2, h3, h4, h5⟩, h6, h7⟩ := h
  unfold ct; omega
theorem cb_12 {P X : PS} (h : cb P) (e : X.2 = P.2) (ez : ∀ k, k ≠ 12 → k ≠ 13 → k ≠ 14 → X.1 k = P.1 k) (h12 : P.1 12 ≤ X.1 12) : cb X := by
  obtain ⟨⟨h1, h2, h3, h4, h5⟩, h6, h7⟩ := h
  unfold cb ci
  rw [e, ez 15 (by decide) (by decide) (by decide), ez 18 (by decide) (by decide) (by decide), ez 37 (by decide) (by decide) (by decide), ez 27 (by decide) (by decide) (by decide), ez 24 (by decide) (by decide) (by decide)]
  exact ⟨⟨h1, h2, h3, Nat.le_trans h4 h12, Nat.le_trans h5 h12⟩, h6, h7⟩
/-- the state of the parser is well: rows, tokens; and inside a chip, where there is no fault -/
def wl (tv : Nat → Int32) (nv : Nat → Nat) (T : Nat) (P : PS) : Prop := AB P ∧ okp T P ∧ tkv tv nv T P.2.2.1
theorem wl_sign {tv : Nat → Int32} {nv : Nat → Nat} {T : Nat} {c : Int32} {P : PS} (h : wl tv nv T P) : wl tv nv T (sp_sign tv c P) := ⟨AB_of h.1 (by rw [ar_sign]), okp_sign h.2.1 h.2.2, by rw [ar_sign]; exact h.2.2⟩
theorem wl_word {tv : Nat → Int32} {nv : Nat → Nat} {T : Nat} {c : Int32} {P : PS} (h : wl tv nv T P) : wl tv nv T (sp_word tv c P) := ⟨AB_of h.1 (by rw [ar_word]), okp_word h.2.1 h.2.2, by rw [ar_word]; exact h.2.2⟩
theorem wl_syntax {tv : Nat → Int32} {nv : Nat → Nat} {T : Nat} {P : PS} (h : wl tv nv T P) : wl tv nv T (sp_syntax P) := ⟨AB_of h.1 (by rw [ar_syntax]), okp_syntax h.2.1, by rw [ar_syntax]; exact h.2.2⟩
theorem wl_room {tv : Nat → Int32} {nv : Nat → Nat} {T a b t : Nat} {P : PS} (h : wl tv nv T P) : wl tv nv T (sp_room a b t P) := ⟨AB_of h.1 (by rw [ar_room]), okp_room h.2.1, by rw [ar_room]; exact h.2.2⟩
theorem f_ch3 {tv : Nat → Int32} {P : PS} (h : (ch3 tv P).1 13 = 0) : P.1 13 = 0 ∧ ch3 tv P = sp_go P ∧ (ch3 tv P).1 15 < 8 ∧ (ch3 tv P).2.2.1 7 ((ch3 tv P).1 12) = 1 ∧ (ch3 tv P).1 12 = P.1 12 + 1 := by
  have h2 : (ch2 tv P).1 13 = 0 := by
    unfold ch3 at h
    split at h
    · assumption
    · exact h
  unfold ch3 at h ⊢
  rw [if_pos h2] at h ⊢
  have fr := f_room h
  rw [fr.2.2]
  have h1 : (ch1 tv P).1 13 = 0 ∧ ch2 tv P = ch1 tv P ∧ (ch1 tv P).2.2.1 7 ((ch1 tv P).1 12) = 1 := by
    unfold ch2 at h2 ⊢
    by_cases q : (ch1 tv P).1 13 = 0 ∧ ¬ (ch1 tv P).2.2.1 7 ((ch1 tv P).1 12) = 1
    · rw [if_pos q] at h2; exact (f_syntax h2).elim
    · rw [if_neg q] at h2 ⊢
      exact ⟨h2, rfl, Decidable.byContradiction (fun z => q ⟨h2, z⟩)⟩
  obtain ⟨g1, g2, g3⟩ := h1
  have fw := f_word g1
  have lt := fr.2.1
  rw [g2] at lt ⊢
  have e : ch1 tv P = sp_go P := fw.2.2
  rw [e] at g3 lt ⊢
  exact ⟨fw.1, rfl, lt, g3, if_pos fw.1⟩
theorem wl_ch3 {tv : Nat → Int32} {nv : Nat → Nat} {T : Nat} {P : PS} (h : wl tv nv T P) : wl tv nv T (ch3 tv P) ∧ (ch3 tv P).2 = P.2 ∧ ∀ k, k ≠ 12 → k ≠ 13 → k ≠ 14 → (ch3 tv P).1 k = P.1 k := by
  have w1 : wl tv nv T (ch1 tv P) := wl_word h
  have s1 : (ch1 tv P).2 = P.2 := ar_word _ _ _
  have z1 : ∀ k, k ≠ 12 → k ≠ 13 → k ≠ 14 → (ch1 tv P).1 k = P.1 k := fun k a b c => zk_word a b c
  have w2 : wl tv nv T (ch2 tv P) ∧ (ch2 tv P).2 = P.2 ∧ ∀ k, k ≠ 12 → k ≠ 13 → k ≠ 14 → (ch2 tv P).1 k = P.1 k := by
    unfold ch2; split
    · exact ⟨wl_syntax w1, by rw [ar_syntax, s1], fun k a b c => by rw [zk_syntax a b c]; exact z1 k a b c⟩
    · exact ⟨w1, s1, z1⟩
  unfold ch3; split
  · exact ⟨wl_room w2.1, by rw [ar_room]; exact w2.2.1, fun k a b c => by rw [zk_room a b c]; exact w2.2.2 k a b c⟩
  · exact w2
theorem ch4_ok {tv : Nat → Int32} {nv : Nat → Nat} {T : Nat} {R : PS} (h : wl tv nv T R) (hc : ct R) (h15 : R.1 15 < 8) (h12 : 1 ≤ R.1 12) : wl tv nv T (ch4 R) ∧ cb (ch4 R) := by
  obtain ⟨hB, ho, ht⟩ := h
  obtain ⟨c1, c2, c3, c4, c5⟩ := hc
  have hT := ht.2.1.1
  have b12 := ho.2
  refine ⟨⟨?_, ho, ?_⟩, ?_⟩
  · exact AB_of (AB_ars (k := 36) (i := R.1 15) (v := R.1 37) (AB_ars (k := 23) (i := R.1 15) (v := R.1 24) (AB_ars (k := 17) (i := R.1 15) (v := R.1 18) (AB_ars (k := 16) (i := R.1 15) (v := R.1 12) hB (show _ < 1002 by omega)) (show R.1 18 < 201 by omega)) (show R.1 24 < 401 by omega)) (show R.1 37 < 701 by omega)) rfl
  · refine tkv_congr ht ?_ ?_ ?_ <;> rfl
  · have e15 : (ch4 R).1 15 = R.1 15 + 1 := rfl
    have e36 : (ch4 R).2.2.1 36 (R.1 15) = R.1 37 := va_up_self _ _ _
    have e23 : (ch4 R).2.2.1 23 (R.1 15) = R.1 24 := va_up_self _ _ _
    have e17 : (ch4 R).2.2.1 17 (R.1 15) = R.1 18 := va_up_self _ _ _
    have e18 : (ch4 R).1 18 = R.1 18 := rfl
    have e37 : (ch4 R).1 37 = R.1 37 := rfl
    have e24 : (ch4 R).1 24 = R.1 24 := rfl
    have e27 : (ch4 R).1 27 = R.1 27 := rfl
    have e12 : (ch4 R).1 12 = R.1 12 := rfl
    unfold cb ci
    rw [e15, Nat.add_sub_cancel, e36, e23, e17, e18, e37, e24, e27, e12]
    omega
theorem ch_pl_ok {tv : Nat → Int32} {nv : Nat → Nat} {T : Nat} {ob : Bool} {X : PS} (h : wl tv nv T X) (hc : cb X) : wl tv nv T (ch_pl tv nv ob X) ∧ ((ch_pl tv nv ob X).1 13 = 0 → X.1 12 ≤ (ch_pl tv nv ob X).1 12 → cb (ch_pl tv nv ob X)) ∧ (∀ k, k ≠ 12 → k ≠ 13 → k ≠ 14 → k ≠ 18 → (ch_pl tv nv ob X).1 k = X.1 k) ∧ (∀ k, k ≠ 20 → k ≠ 21 → (ch_pl tv nv ob X).2.2.1 k = X.2.2.1 k) ∧ (X.2.2.1 17 (X.1 15 - 1) ≤ (ch_pl tv nv ob X).1 18 ∧ (ch_pl tv nv ob X).1 18 ≤ X.2.2.1 17 (X.1 15 - 1) + 8) := by
  unfold ch_pl
  split
  · obtain ⟨r1, r2, r3, r4, r5, r6⟩ := pl_keep (ob := ob) 1002 X h.2.1 h.2.2 h.1 hc.2.2.1 hc.2.2.2.1
    refine ⟨⟨r1, r2, r3⟩, fun _ hm => ?_, r4, r5, r6⟩
    obtain ⟨⟨h1, h2, h3, h4, h5⟩, h6, h7⟩ := hc
    unfold cb ci
    rw [r4 15 (by decide) (by decide) (by decide) (by decide), r4 37 (by decide) (by decide) (by decide) (by decide), r4 24 (by decide) (by decide) (by decide) (by decide), r4 27 (by decide) (by decide) (by decide) (by decide), r5 36 (by decide) (by decide), r5 23 (by decide) (by decide), r5 17 (by decide) (by decide)]
    omega
  · exact ⟨h, fun _ _ => hc, fun _ _ _ _ _ => rfl, fun _ _ _ => rfl, hc.2.2.1, hc.2.2.2.1⟩
theorem z12_one {tv : Nat → Int32} {nv : Nat → Nat} {ob : Bool} {P : PS} : P.1 12 ≤ (pl_one tv nv ob P).1 12 := by
  have h1 : P.1 12 ≤ (pl_q1 ob P).1 12 := z12_go (pl_put ob P)
  have h3 : P.1 12 ≤ (pl_q3 tv ob P).1 12 := Nat.le_trans (Nat.le_trans h1 (Nat.le_trans (z12_go _) (z12_number _))) (z12_sign tv (nI 93) (aos (pl_q2 ob P) 22 ((sp_go (pl_q1 ob P)).1 18) (some ((pl_q2 ob P).1 12 - 1))))
  unfold pl_one
  split
  · split
    · exact h3
    · exact h3
  · exact h1
theorem z12_pl {tv : Nat → Int32} {nv : Nat → Nat} {ob : Bool} : ∀ (k : Nat) (P : PS), P.1 12 ≤ (pl_loop tv nv ob k P).1 12
  | 0, P => Nat.le_refl _
  | k + 1, P => by
    rw [pl_loop_s]
    have h1 := z12_one (tv := tv) (nv := nv) (ob := ob) (P := P)
    split
    · split
      · split
        · split
          · exact Nat.le_trans h1 (Nat.le_trans (z12_go _) (z12_pl k _))
          · exact Nat.le_trans h1 (z12_sign tv _ _)
        · exact h1
      · rw [sp_wrong_12]; exact Nat.le_refl _
    · exact z12_syntax P
theorem z12_chpl {tv : Nat → Int32} {nv : Nat → Nat} {ob : Bool} {X : PS} : X.1 12 ≤ (ch_pl tv nv ob X).1 12 := by
  unfold ch_pl; split
  · exact z12_pl 1002 X
  · exact Nat.le_refl _
/-- inside a chip: well; cb where there is no fault -/
def wc (tv : Nat → Int32) (nv : Nat → Nat) (T : Nat) (P : PS) : Prop := wl tv nv T P ∧ cb P
theorem wc_sign {tv : Nat → Int32} {nv : Nat → Nat} {T : Nat} {c : Int32} {P : PS} (h : wc tv nv T P) : wc tv nv T (sp_sign tv c P) := ⟨wl_sign h.1, cb_12 h.2 (ar_sign _ _ _) (fun k a b c => zk_sign a b c) (z12_sign _ _ _)⟩
theorem wc_word {tv : Nat → Int32} {nv : Nat → Nat} {T : Nat} {c : Int32} {P : PS} (h : wc tv nv T P) : wc tv nv T (sp_word tv c P) := ⟨wl_word h.1, cb_12 h.2 (ar_word _ _ _) (fun k a b c => zk_word a b c) (z12_word _ _ _)⟩
theorem wc_go {tv : Nat → Int32} {nv : Nat → Nat} {T : Nat} {P : PS} (h : wc tv nv T P) (hk : P.2.2.1 7 (P.1 12) = 1) : wc tv nv T (sp_go P) := ⟨⟨AB_of h.1.1 rfl, okp_go h.1.2.1 (tk_next h.1.2.2 h.1.2.1.2 (Or.inl hk)), h.1.2.2⟩, cb_12 h.2 rfl (fun k a b c => zk_go a b c) (z12_go _)⟩
theorem wc_pl {tv : Nat → Int32} {nv : Nat → Nat} {T : Nat} {ob : Bool} {P : PS} (h : wc tv nv T P) : wc tv nv T (ch_pl tv nv ob P) := by
  obtain ⟨r1, r2, r3, r4, r5⟩ := ch_pl_ok (ob := ob) h.1 h.2
  refine ⟨r1, ?_⟩
  have h12 := z12_chpl (tv := tv) (nv := nv) (ob := ob) (X := P)
  obtain ⟨⟨h1, h2, h3, h4, h5⟩, h6, h7⟩ := h.2
  unfold cb ci
  rw [r3 15 (by decide) (by decide) (by decide) (by decide), r3 37 (by decide) (by decide) (by decide) (by decide), r3 24 (by decide) (by decide) (by decide) (by decide), r3 27 (by decide) (by decide) (by decide) (by decide), r4 36 (by decide) (by decide), r4 23 (by decide) (by decide), r4 17 (by decide) (by decide)]
  omega
theorem wc_ch7 {tv : Nat → Int32} {nv : Nat → Nat} {T : Nat} {R : PS} (h : wl tv nv T R) (hc : ct R) (h15 : R.1 15 < 8) (h12 : 1 ≤ R.1 12) (hk : R.2.2.1 7 (R.1 12) = 1) : wc tv nv T (ch7 tv nv R) := by
  have h4 : wc tv nv T (ch4 R) := ch4_ok h hc h15 h12
  have h5 : wc tv nv T (ch5 tv R) := wc_word (wc_sign (wc_go h4 hk))
  have h6 : wc tv nv T (ch6 tv nv R) := wc_word (wc_pl h5)
  exact wc_sign (wc_word (wc_pl h6))
theorem z12_ch7 {tv : Nat → Int32} {nv : Nat → Nat} {R : PS} : R.1 12 ≤ (ch7 tv nv R).1 12 := by
  have h1 : R.1 12 ≤ (sp_go (ch4 R)).1 12 := z12_go (ch4 R)
  have h2 := z12_sign tv (nI 123) (sp_go (ch4 R))
  have h3 := z12_word tv (nI 1) (sp_sign tv (nI 123) (sp_go (ch4 R)))
  have h4 := z12_chpl (tv := tv) (nv := nv) (ob := false) (X := ch5 tv R)
  have h5 := z12_word tv (nI 2) (ch_pl tv nv false (ch5 tv R))
  have h6 := z12_chpl (tv := tv) (nv := nv) (ob := true) (X := ch6 tv nv R)
  have h7 := z12_word tv (nI 3) (ch_pl tv nv true (ch6 tv nv R))
  have h8 := z12_sign tv (nI 58) (sp_word tv (nI 3) (ch_pl tv nv true (ch6 tv nv R)))
  unfold ch7
  refine Nat.le_trans ?_ h8
  refine Nat.le_trans ?_ h7
  refine Nat.le_trans ?_ h6
  unfold ch6
  refine Nat.le_trans ?_ h5
  refine Nat.le_trans ?_ h4
  unfold ch5
  exact Nat.le_trans h1 (Nat.le_trans h2 h3)
theorem ch_keep {ft tv : Nat → Int32} {nv : Nat → Nat} {T : Nat} : ∀ (k : Nat) (P : PS), wl tv nv T P → (P.1 13 = 0 → cb P) → wl tv nv T (ch_loop ft tv nv k P) ∧ ((ch_loop ft tv nv k P).1 13 = 0 → cb (ch_loop ft tv nv k P) ∧ P.1 12 ≤ (ch_loop ft tv nv k P).1 12)
  | 0, P, hw, hc => ⟨hw, fun h => ⟨hc h, Nat.le_refl _⟩⟩
  | k + 1, P, hw, hc => by
    rw [ch_loop_s]
    split
    · rename_i q
      obtain ⟨r1, r2, r3, -, -, -, r7⟩ := part_keep (ft := ft) hw.2.1 hw.2.2 hw.1 q.1 (hc q.1)
      obtain ⟨s1, s2⟩ := ch_keep (ft := ft) k (sp_part ft tv nv P) ⟨r1, r2, r3⟩ (fun h => (r7 h).1)
      refine ⟨s1, fun h => ⟨(s2 h).1, ?_⟩⟩
      by_cases hx : (sp_part ft tv nv P).1 13 = 0
      · have := (r7 hx).2; have := (s2 h).2; omega
      · rw [ch_loop_e hx] at h; exact absurd h hx
    · exact ⟨hw, fun h => ⟨hc h, Nat.le_refl _⟩⟩
/-- a chip: what it keeps -/
theorem chip_keep {ft tv : Nat → Int32} {nv : Nat → Nat} {T : Nat} {P : PS} (hw : wl tv nv T P) (hc : ct P) : wl tv nv T (sp_chip ft tv nv P) ∧ ((sp_chip ft tv nv P).1 13 = 0 → ct (sp_chip ft tv nv P) ∧ cb (sp_chip ft tv nv P) ∧ P.1 12 < (sp_chip ft tv nv P).1 12) := by
  obtain ⟨w3, s3, z3⟩ := wl_ch3 hw
  unfold sp_chip
  split
  · rename_i h; exact ⟨w3, fun z => by omega⟩
  · rename_i h
    obtain ⟨f1, f2, f3, f4, f5⟩ := f_ch3 (show (ch3 tv P).1 13 = 0 by omega)
    have c3 : ct (ch3 tv P) := by
      unfold ct at hc ⊢
      rw [z3 15 (by decide) (by decide) (by decide), z3 18 (by decide) (by decide) (by decide), z3 24 (by decide) (by decide) (by decide), z3 37 (by decide) (by decide) (by decide), z3 27 (by decide) (by decide) (by decide)]
      omega
    have w7 := wc_ch7 (nv := nv) w3 c3 f3 (by omega) f4
    have y7 := z12_ch7 (tv := tv) (nv := nv) (R := ch3 tv P)
    obtain ⟨s1, s2⟩ := ch_keep (ft := ft) 1002 (ch7 tv nv (ch3 tv P)) w7.1 (fun _ => w7.2)
    refine ⟨wl_sign s1, fun h => ?_⟩
    have fs := f_sign h
    have c8 : wc tv nv T (sp_sign tv (nI 125) (ch_loop ft tv nv 1002 (ch7 tv nv (ch3 tv P)))) := wc_sign ⟨s1, (s2 fs.1).1⟩
    have := z12_sign tv (nI 125) (ch_loop ft tv nv 1002 (ch7 tv nv (ch3 tv P)))
    have := (s2 fs.1).2
    exact ⟨cb_ct c8.2, c8.2, by omega⟩
def tt0 (P : PS) : PS := zs (zs (zs (zs (zs (zs P 13 0) 15 0) 18 0) 24 0) 27 0) 37 0
def tt_loop (ft tv : Nat → Int32) (nv : Nat → Nat) : Nat → PS → PS
  | 0, P => P
  | k + 1, P => if P.1 13 = 0 then (if (sp_chip ft tv nv P).2.2.1 7 ((sp_chip ft tv nv P).1 12) = 0 then sp_chip ft tv nv P else tt_loop ft tv nv k (sp_chip ft tv nv P)) else P
theorem tt_loop_s (ft tv : Nat → Int32) (nv : Nat → Nat) (k : Nat) (P : PS) : tt_loop ft tv nv (k + 1) P = if P.1 13 = 0 then (if (sp_chip ft tv nv P).2.2.1 7 ((sp_chip ft tv nv P).1 12) = 0 then sp_chip ft tv nv P else tt_loop ft tv nv k (sp_chip ft tv nv P)) else P := rfl
theorem tt_loop_e {ft tv : Nat → Int32} {nv : Nat → Nat} {k : Nat} {P : PS} (h : ¬ P.1 13 = 0) : tt_loop ft tv nv k P = P := by
  cases k with
  | zero => rfl
  | succ k => rw [tt_loop_s, if_neg h]
def tt_end (X : PS) : PS := ars (ars (ars (ars X 17 (X.1 15) (X.1 18)) 23 (X.1 15) (X.1 24)) 36 (X.1 15) (X.1 37)) 26 (X.1 24) (X.1 27)
def sp_texts (ft tv : Nat → Int32) (nv : Nat → Nat) (P : PS) : PS := tt_end (tt_loop ft tv nv 1002 (tt0 P))
theorem tt_keep {ft tv : Nat → Int32} {nv : Nat → Nat} {T : Nat} : ∀ (k : Nat) (P : PS), wl tv nv T P → (P.1 13 = 0 → ct P) → wl tv nv T (tt_loop ft tv nv k P) ∧ ((tt_loop ft tv nv k P).1 13 = 0 → ct (tt_loop ft tv nv k P))
  | 0, P, hw, hc => ⟨hw, hc⟩
  | k + 1, P, hw, hc => by
    rw [tt_loop_s]
    split
    · rename_i q
      obtain ⟨r1, r2⟩ := chip_keep (ft := ft) hw (hc q)
      split
      · exact ⟨r1, fun h => (r2 h).1⟩
      · exact tt_keep k _ r1 (fun h => (r2 h).1)
    · exact ⟨hw, hc⟩
theorem wl_tt0 {tv : Nat → Int32} {nv : Nat → Nat} {T : Nat} {P : PS} (h : wl tv nv T P) : wl tv nv T (tt0 P) ∧ ct (tt0 P) := by
  refine ⟨⟨AB_of h.1 rfl, ⟨Nat.zero_le _, h.2.1.2⟩, h.2.2⟩, ?_⟩
  exact ⟨Nat.zero_le _, Nat.le_refl 0, Nat.le_refl 0, Nat.le_refl 0, Nat.zero_le _⟩
/-! Counters stay small, also where a fault is found -/
theorem wl_ch2 {tv : Nat → Int32} {nv : Nat → Nat} {T : Nat} {P : PS} (h : wl tv nv T P) : wl tv nv T (ch2 tv P) ∧ (ch2 tv P).2 = P.2 ∧ ∀ k, k ≠ 12 → k ≠ 13 → k ≠ 14 → (ch2 tv P).1 k = P.1 k := by
  have w1 : wl tv nv T (ch1 tv P) := wl_word h
  have s1 : (ch1 tv P).2 = P.2 := ar_word _ _ _
  have z1 : ∀ k, k ≠ 12 → k ≠ 13 → k ≠ 14 → (ch1 tv P).1 k = P.1 k := fun k a b c => zk_word a b c
  unfold ch2; split
  · exact ⟨wl_syntax w1, by rw [ar_syntax, s1], fun k a b c => by rw [zk_syntax a b c]; exact z1 k a b c⟩
  · exact ⟨w1, s1, z1⟩
def sm (P : PS) : Prop := P.1 15 ≤ 8 ∧ P.1 18 ≤ 100 ∧ P.1 24 ≤ 100 ∧ P.1 37 ≤ 300 ∧ P.1 27 ≤ 400
theorem sm_of {P X : PS} (h : sm P) (ez : ∀ k, k ≠ 12 → k ≠ 13 → k ≠ 14 → X.1 k = P.1 k) : sm X := by
  unfold sm
  rw [ez 15 (by decide) (by decide) (by decide), ez 18 (by decide) (by decide) (by decide), ez 24 (by decide) (by decide) (by decide), ez 37 (by decide) (by decide) (by decide), ez 27 (by decide) (by decide) (by decide)]
  exact h
theorem link_27 {ft tv : Nat → Int32} {nv : Nat → Nat} {P : PS} : (sp_link ft tv nv P).1 27 ≤ P.1 27 + 1 ∧ (sp_link ft tv nv P).1 37 ≤ P.1 37 + 1 := by
  have z5 : ∀ k, k ≠ 12 → k ≠ 13 → k ≠ 14 → k ≠ 42 → k ≠ 43 → (lk5 tv nv P).1 k = P.1 k := fun k a b c d e => zk_lk5 a b c d e
  unfold sp_link
  split
  · rw [zk_name (by decide) (by decide) (by decide), zk_name (by decide) (by decide) (by decide)]; omega
  split
  · rw [z5 27 (by decide) (by decide) (by decide) (by decide) (by decide), z5 37 (by decide) (by decide) (by decide) (by decide) (by decide)]; omega
  have z27 : (lk6 (lk5 tv nv P)).1 27 = P.1 27 := z5 27 (by decide) (by decide) (by decide) (by decide) (by decide)
  have z37 : (lk6 (lk5 tv nv P)).1 37 = P.1 37 := z5 37 (by decide) (by decide) (by decide) (by decide) (by decide)
  generalize lk6 (lk5 tv nv P) = X at *
  unfold lk_rt
  split
  · show X.1 27 + 1 ≤ _ ∧ X.1 37 ≤ _; omega
  split
  · have r27 : (lkr X).1 27 = P.1 27 := z27
    have r37 : (lkr X).1 37 = P.1 37 := z37
    generalize lkr X = R at *
    rw [lk_nm_x]
    split
    · split
      · show (lk7 R).1 27 ≤ _ ∧ (lk7 R).1 37 ≤ _
        unfold lk7
        rw [zk_room (by decide) (by decide) (by decide), zk_room (by decide) (by decide) (by decide)]; omega
      · rename_i h7
        have e7 : lk7 R = R := (f_room (show (lk7 R).1 13 = 0 by omega)).2.2
        rw [e7, lkx_27, lkx_z (by decide) (by decide) (by decide) (by decide) (by decide) (by decide)]
        show R.1 27 + 1 ≤ _ ∧ R.1 37 + 1 ≤ _
        omega
    · rw [lkx_27, lkx_z (by decide) (by decide) (by decide) (by decide) (by decide) (by decide)]
      omega
  · show (sp_syntax X).1 27 + 1 ≤ _ ∧ (sp_syntax X).1 37 ≤ _
    rw [zk_syntax (by decide) (by decide) (by decide), zk_syntax (by decide) (by decide) (by decide)]
    omega
theorem pt_small {ft tv : Nat → Int32} {nv : Nat → Nat} {T : Nat} : ∀ (k : Nat) (P : PS), wl tv nv T P → (P.1 13 = 0 → ci P) → sm P → sm (pt_loop ft tv nv k P)
  | 0, P, _, _, h => h
  | k + 1, P, hw, hc, h => by
    by_cases h0 : P.1 13 = 0
    · rw [pt_loop_s, if_pos h0]
      obtain ⟨b18, b37⟩ := ci_b (hc h0)
      obtain ⟨B1, o1, t1, z1, a1⟩ := link_keep (ft := ft) hw.2.1 hw.2.2 hw.1 b18 b37
      have c1 := link_ci (ft := ft) hw.2.1 hw.2.2 (hc h0)
      have e := link_27 (ft := ft) (tv := tv) (nv := nv) (P := P)
      obtain ⟨c15, c18, c37, c27, -⟩ := hc h0
      have hT := hw.2.2.2.1.1
      have b12 := hw.2.1.2
      have s1 : sm (sp_link ft tv nv P) := by
        obtain ⟨s15, s18, s24, s37, s27⟩ := h
        unfold sm
        rw [z1 15 (by decide) (by decide) (by decide) (by decide) (by decide) (by decide) (by decide), z1 18 (by decide) (by decide) (by decide) (by decide) (by decide) (by decide) (by decide), z1 24 (by decide) (by decide) (by decide) (by decide) (by decide) (by decide) (by decide)]
        omega
      generalize sp_link ft tv nv P = X at *
      split
      · rename_i hs
        have og : okp T (sp_go X) := okp_go o1 (tk_next t1 o1.2 (Or.inr (Or.inr (Or.inl (sg_k hs)))))
        exact pt_small k (sp_go X) ⟨AB_of B1 rfl, og, t1⟩ (fun h => ci_go (c1 h)) (sm_of s1 (fun k a b c => zk_go a b c))
      · exact s1
    · rw [pt_loop_e h0]; exact h
theorem part_small {ft tv : Nat → Int32} {nv : Nat → Nat} {T : Nat} {P : PS} (hw : wl tv nv T P) (h0 : P.1 13 = 0) (hc : cb P) (h : sm P) : sm (sp_part ft tv nv P) := by
  obtain ⟨hci, h24, h18⟩ := hc
  unfold sp_part
  split
  · rename_i hk
    split
    · exact sm_of h (fun k a b c => zk_room a b c)
    · rename_i h13
      have f1 := f_room (show (pt1 P).1 13 = 0 by omega)
      have e1 : pt1 P = P := f1.2.2
      rw [e1]
      have lt := f1.2.1
      have c1 := hci.1
      obtain ⟨B3, o3, t3, c3, z3, z24, a3, y3⟩ := pt3_ok hw.2.1 hw.2.2 hw.1 hci hk (by omega)
      have s3 : sm (pt3 tv P) := by
        obtain ⟨s15, s18, s24, s37, s27⟩ := h
        unfold sm
        rw [z3 15 (by decide) (by decide) (by decide) (by decide), z3 18 (by decide) (by decide) (by decide) (by decide), z24, z3 37 (by decide) (by decide) (by decide) (by decide), z3 27 (by decide) (by decide) (by decide) (by decide)]
        omega
      have s4 := pt_small (ft := ft) 1002 (pt3 tv P) ⟨B3, o3, t3⟩ (fun _ => c3) s3
      exact sm_of (sm_of s4 (fun k a b c => zk_sign a b c)) (fun k a b c => zk_sign a b c)
  · exact sm_of h (fun k a b c => zk_syntax a b c)
theorem ch_small {ft tv : Nat → Int32} {nv : Nat → Nat} {T : Nat} : ∀ (k : Nat) (P : PS), wl tv nv T P → (P.1 13 = 0 → cb P) → sm P → sm (ch_loop ft tv nv k P)
  | 0, P, _, _, h => h
  | k + 1, P, hw, hc, h => by
    rw [ch_loop_s]
    split
    · rename_i q
      obtain ⟨r1, r2, r3, -, -, -, r7⟩ := part_keep (ft := ft) hw.2.1 hw.2.2 hw.1 q.1 (hc q.1)
      exact ch_small k _ ⟨r1, r2, r3⟩ (fun h => (r7 h).1) (part_small hw q.1 (hc q.1) h)
    · exact h
theorem cb_sm {tv : Nat → Int32} {nv : Nat → Nat} {T : Nat} {P : PS} (hw : wl tv nv T P) (h : cb P) : sm P := by
  obtain ⟨⟨h1, h2, h3, h4, h5⟩, h6, h7⟩ := h
  have hT := hw.2.2.2.1.1
  have b12 := hw.2.1.2
  unfold sm; omega
theorem ct_sm {tv : Nat → Int32} {nv : Nat → Nat} {T : Nat} {P : PS} (hw : wl tv nv T P) (h : ct P) : sm P := by
  obtain ⟨h1, h2, h3, h4, h5⟩ := h
  have hT := hw.2.2.2.1.1
  have b12 := hw.2.1.2
  unfold sm; omega
theorem chip_small {ft tv : Nat → Int32} {nv : Nat → Nat} {T : Nat} {P : PS} (hw : wl tv nv T P) (hc : ct P) : sm (sp_chip ft tv nv P) := by
  obtain ⟨w3, s3, z3⟩ := wl_ch3 hw
  unfold sp_chip
  split
  · exact sm_of (ct_sm hw hc) z3
  · rename_i h
    obtain ⟨f1, f2, f3, f4, f5⟩ := f_ch3 (show (ch3 tv P).1 13 = 0 by omega)
    have c3 : ct (ch3 tv P) := by
      unfold ct at hc ⊢
      rw [z3 15 (by decide) (by decide) (by decide), z3 18 (by decide) (by decide) (by decide), z3 24 (by decide) (by decide) (by decide), z3 37 (by decide) (by decide) (by decide), z3 27 (by decide) (by decide) (by decide)]
      omega
    have w7 := wc_ch7 (nv := nv) w3 c3 f3 (by omega) f4
    exact sm_of (ch_small 1002 _ w7.1 (fun _ => w7.2) (cb_sm w7.1 w7.2)) (fun k a b c => zk_sign a b c)
theorem tt_small {ft tv : Nat → Int32} {nv : Nat → Nat} {T : Nat} : ∀ (k : Nat) (P : PS), wl tv nv T P → (P.1 13 = 0 → ct P) → sm P → sm (tt_loop ft tv nv k P)
  | 0, P, _, _, h => h
  | k + 1, P, hw, hc, h => by
    rw [tt_loop_s]
    split
    · rename_i q
      obtain ⟨r1, r2⟩ := chip_keep (ft := ft) hw (hc q)
      have s1 := chip_small (ft := ft) hw (hc q)
      split
      · exact s1
      · exact tt_small k _ r1 (fun h => (r2 h).1) s1
    · exact h
/-- behind the texts: well, counters small -/
theorem texts_wl {ft tv : Nat → Int32} {nv : Nat → Nat} {T : Nat} {P : PS} (hw : wl tv nv T P) : wl tv nv T (sp_texts ft tv nv P) ∧ sm (sp_texts ft tv nv P) ∧ ((sp_texts ft tv nv P).1 13 = 0 → ct (sp_texts ft tv nv P)) := by
  obtain ⟨w0, c0⟩ := wl_tt0 hw
  obtain ⟨r1, r2⟩ := tt_keep (ft := ft) 1002 (tt0 P) w0 (fun _ => c0)
  have s1 := tt_small (ft := ft) 1002 (tt0 P) w0 (fun _ => c0) (ct_sm w0 c0)
  unfold sp_texts
  generalize tt_loop ft tv nv 1002 (tt0 P) = X at *
  obtain ⟨x15, x18, x24, x37, x27⟩ := id s1
  refine ⟨⟨?_, r1.2.1, ?_⟩, s1, r2⟩
  · exact AB_ars (AB_ars (AB_ars (AB_ars r1.1 (show X.1 18 < 201 by omega)) (show X.1 24 < 401 by omega)) (show X.1 37 < 701 by omega)) (show X.1 27 < 701 by omega)
  · refine tkv_congr r1.2.2 ?_ ?_ ?_ <;> rfl
