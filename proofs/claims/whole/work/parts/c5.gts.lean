/-! pin and gates, on both boards -/
def bsm (B : Nat → Bool) : Nat → Nat
  | 0 => 0
  | n + 1 => bsm B n + (if B n = true then 2 ^ n else 0)
theorem onm_s (B : Nat → Bool) : ∀ k i v, onm B k i v + bsm B i = v + bsm B (i + k)
  | 0, i, v => rfl
  | k + 1, i, v => by
    have h := onm_s B k (i + 1) (v + (if B i = true then 2 ^ i else 0))
    have e : bsm B (i + 1) = bsm B i + (if B i = true then 2 ^ i else 0) := rfl
    rw [e, show i + 1 + k = i + (k + 1) by omega] at h
    show onm B k (i + 1) (v + (if B i = true then 2 ^ i else 0)) + bsm B i = v + bsm B (i + (k + 1))
    omega
theorem mpin_s {A : Nat → Nat} {B : Nat → Bool} : ∀ w v, (∀ i, i < w → A i = (B i).toNat) → m_pin A w v = v * 2 ^ w + bsm B w
  | 0, v, _ => by show v = v * 2 ^ 0 + 0; rw [Nat.pow_zero, Nat.mul_one, Nat.add_zero]
  | w + 1, v, h => by
    show m_pin A w (2 * v + A w) = v * 2 ^ (w + 1) + (bsm B w + (if B w = true then 2 ^ w else 0))
    rw [mpin_s w _ (fun i hi => h i (by omega)), h w (by omega), Nat.add_mul, Nat.pow_succ, show 2 * v * 2 ^ w = v * (2 ^ w * 2) by rw [Nat.mul_comm 2 v, Nat.mul_assoc, Nat.mul_comm 2]]
    cases B w
    · show _ + 0 * _ + _ = _ + (_ + 0); omega
    · show _ + 1 * _ + _ = _ + (_ + 2 ^ w); omega
/-- the same number on a pin -/
theorem pin_cmp2 {A : Nat → Nat} {B : Nat → Bool} {w : Nat} (h : ∀ i, i < w → A i = (B i).toNat) : m_pin A w 0 = onm B w 0 0 := by
  have a := mpin_s w 0 h
  have b : onm B w 0 0 + 0 = 0 + bsm B (0 + w) := onm_s B w 0 0
  rw [Nat.zero_add w] at b
  omega
/-- the class counts its Nands -/
def NNC (Z : LZ) : Prop := Z.2.2.2.2.2.2.2.1 = cns (fun j => decide (Z.2.2.1 j = false)) Z.2.2.2.2.2.2.2.2
theorem NNC_agt {d : Bool} {ib st nb fg : Nat} {Z : LZ} (h : NNC Z) : NNC (nb, agt d ib st nb fg Z.2) := by
  unfold NNC at h ⊢
  show Z.2.2.2.2.2.2.2.1 + (if d = true then 0 else 1) = cns (fun j => decide (va_up Z.2.2.1 Z.2.2.2.2.2.2.2.2 d j = false)) Z.2.2.2.2.2.2.2.2 + (if decide (va_up Z.2.2.1 Z.2.2.2.2.2.2.2.2 d Z.2.2.2.2.2.2.2.2 = false) = true then 1 else 0)
  rw [va_up_self, h]
  congr 1
  · exact cns_eq _ (fun i hi => by rw [va_up_ne _ _ (by omega)])
  · cases d <;> rfl
theorem ly1_nn {ft tv gp : Nat → Int32} {S : PS} {rec_ : Nat → Nat → LZ → Bool × LZ} {fg c bs q : Nat} {Z : LZ} (hr : ∀ c bs Z, NNC Z → NNC (rec_ c bs Z).2) (h : NNC Z) : NNC (ly1 ft tv gp S rec_ fg c bs q Z).2 := by
  unfold ly1
  split
  · exact h
  · have b : NNC (lyl ft tv gp S c bs q Z) := h
    split
    · exact hr _ _ _ b
    · unfold lyg
      split
      · exact NNC_agt b
      · exact b
theorem lyp_nn {ft tv gp : Nat → Int32} {S : PS} {rec_ : Nat → Nat → LZ → Bool × LZ} {fg c bs : Nat} (hr : ∀ c bs Z, NNC Z → NNC (rec_ c bs Z).2) : ∀ k q Z, NNC Z → NNC (lyp ft tv gp S rec_ fg c bs k q Z).2
  | 0, _, _, h => h
  | k + 1, q, Z, h => by
    have b := ly1_nn (ft := ft) (tv := tv) (gp := gp) (S := S) (fg := fg) (c := c) (bs := bs) (q := q) hr h
    show NNC (if (ly1 ft tv gp S rec_ fg c bs q Z).1 = true then lyp ft tv gp S rec_ fg c bs k (q + 1) (ly1 ft tv gp S rec_ fg c bs q Z).2 else ly1 ft tv gp S rec_ fg c bs q Z).2
    split
    · exact lyp_nn hr k (q + 1) _ b
    · exact b
theorem lay_nn {ft tv gp : Nat → Int32} {S : PS} {fg : Nat} : ∀ d c bs Z, NNC Z → NNC (lay ft tv gp S fg d c bs Z).2
  | 0, _, _, _, h => h
  | d + 1, c, bs, Z, h => lyp_nn (lay_nn d) _ _ _ h
/-- what the reference's gates finds -/
theorem gtl_sp {go gi bv : Nat → Nat} {gl : Nat → Option Nat} (hbv : ∀ j, bv j ≤ 1) {n : Nat} : ∀ k i (V : Nat × Nat), i + k = n → V.2 ≤ (gt_l go gi bv gl k i V).2 ∧ (∀ p, i ≤ p → p < n → (gl (go p)).getD 0 ≤ (gt_l go gi bv gl k i V).2) ∧ ((gt_l go gi bv gl k i V).2 = V.2 ∨ ∃ p, i ≤ p ∧ p < n ∧ (gl (go p)).getD 0 = (gt_l go gi bv gl k i V).2) ∧ (gt_l go gi bv gl k i V).1 + cns (fun p => decide (bv (gi (go p) + 2) = 1)) i = V.1 + cns (fun p => decide (bv (gi (go p) + 2) = 1)) n
  | 0, i, V, hi => by
    have : i = n := by omega
    subst this
    exact ⟨Nat.le_refl _, fun p a b => by omega, Or.inl rfl, rfl⟩
  | k + 1, i, V, hi => by
    obtain ⟨a, b, c, d⟩ := gtl_sp (go := go) (gi := gi) (gl := gl) hbv (n := n) k (i + 1) (gt_1 gi bv gl (go i) V) (by omega)
    have eU : gt_l go gi bv gl (k + 1) i V = gt_l go gi bv gl k (i + 1) (gt_1 gi bv gl (go i) V) := rfl
    rw [eU]
    have m : (gt_1 gi bv gl (go i) V).2 = if V.2 < (gl (go i)).getD 0 then (gl (go i)).getD 0 else V.2 := rfl
    have o : (gt_1 gi bv gl (go i) V).1 = V.1 + bv (gi (go i) + 2) := rfl
    have e3 : cns (fun p => decide (bv (gi (go p) + 2) = 1)) (i + 1) = cns (fun p => decide (bv (gi (go p) + 2) = 1)) i + (if decide (bv (gi (go i) + 2) = 1) = true then 1 else 0) := rfl
    generalize gt_l go gi bv gl k (i + 1) (gt_1 gi bv gl (go i) V) = R at a b c d ⊢
    rw [m] at a c
    rw [o, e3] at d
    refine ⟨?_, fun p p1 p2 => ?_, ?_, ?_⟩
    · split at a <;> omega
    · by_cases e : p = i
      · subst e; split at a <;> omega
      · exact b p (by omega) p2
    · rcases c with c | ⟨p, p1, p2, p3⟩
      · split at c
        · exact Or.inr ⟨i, Nat.le_refl _, by omega, c.symm⟩
        · exact Or.inl c
      · exact Or.inr ⟨p, by omega, p2, p3⟩
    · have h1 := hbv (gi (go i) + 2)
      by_cases e : bv (gi (go i) + 2) = 1
      · rw [if_pos (decide_eq_true e), e] at d; omega
      · rw [if_neg (fun q => e (of_decide_eq_true q))] at d; omega
section VAG
variable {ft tv gp : Nat → Int32} {S : PS} {c0 fg : Nat} {bC gC bR gR : List Nat → Nat} {Z : LZ} {fi si : Nat → Nat} {Y : LY} {G : (Nat → Nat) × (Nat → Nat)}
/-- the counts of both sides -/
theorem BB.gts (hb : BB ft tv gp S c0 fg bC gC Z fi si bR gR Y G) {T : AS} {O : OR} (hT : NI Z.2.2.1 fi si fg Z.2.2.2.2.2.2.2.2 0 T) (hT1 : ∀ j, j < Z.2.2.2.2.2.2.2.2 → T.2.1 (fg + j) ≠ 1) (hO : OI Y.2.2.2.2.2.2 Y.2.2.1 G.1 G.2 Y.1.2.2 O) (hO1 : ∀ x, x < Y.1.2.2 → Y.2.2.2.2.2.2 x = false → O.1 x ≠ none) (hn : NNC Z) {va : Nat → Bool} {bv : Nat → Nat} (hbv : ∀ j, bv j ≤ 1) (h : VA S c0 fg gC bR Y (fun _ => True) va bv) {on : Nat} (hon : on = cns (fun p => va (fg + T.2.2.1 p)) T.2.2.2.1) :
    Z.2.2.2.2.2.2.2.1 = O.2.2.1 ∧ Z.2.2.2.2.2.2.2.2 = Y.1.2.2 ∧ on = (gt_l O.2.1 Y.2.2.2.2.2.1 bv O.1 O.2.2.1 0 (0, 0)).1 ∧ T.2.2.2.2 = (gt_l O.2.1 Y.2.2.2.2.2.1 bv O.1 O.2.2.1 0 (0, 0)).2 := by
  obtain ⟨c1, c2⟩ := hb.cnt
  obtain ⟨a, b, c, d⟩ := gtl_sp (go := O.2.1) (gi := Y.2.2.2.2.2.1) (bv := bv) (gl := O.1) hbv (n := O.2.2.1) O.2.2.1 0 (0, 0) (Nat.zero_add _)
  refine ⟨?_, c1, ?_, ?_⟩
  · rw [hn, c2, ← hO.2.2.2]
    refine cns_eq _ (fun x hx => ?_)
    by_cases e : Y.2.2.2.2.2.2 x = false
    · rw [decide_eq_true e, decide_eq_true (hO1 x hx e)]
    · rw [decide_eq_false e, decide_eq_false (fun z => ?_)]
      rcases eo : O.1 x with _ | v
      · exact z eo
      · exact e (hO.1 x v hx eo).1
  · rw [hon, h.ones hb hT hT1 hO hO1]
    have d : (gt_l O.2.1 Y.2.2.2.2.2.1 bv O.1 O.2.2.1 0 (0, 0)).1 + 0 = 0 + cns (fun p => decide (bv (Y.2.2.2.2.2.1 (O.2.1 p) + 2) = 1)) O.2.2.1 := d
    omega
  · generalize gt_l O.2.1 Y.2.2.2.2.2.1 bv O.1 O.2.2.1 0 (0, 0) = R at a b c d ⊢
    have lv : ∀ s, gtp S c0 s → tyl S s = 0 → O.1 (gR s) = some (T.2.1 (fg + gC s) - 2) ∧ 3 ≤ T.2.1 (fg + gC s) := fun s s1 s0 => hb.lev hT hT1 hO hO1 _ s (Nat.lt_succ_self _) s1 s0
    refine Nat.le_antisymm ?_ ?_
    · rcases hT.2.2.2.2.2.2.2.2 with z | ⟨j, hj, ej⟩
      · rw [z]; exact Nat.zero_le _
      · by_cases z : T.2.2.2.2 = 0
        · rw [z]; exact Nat.zero_le _
        · obtain ⟨s, s1, s2⟩ := hb.1.1.gx hj
          have s0 : tyl S s = 0 := by
            have q := (hb.isC s1).1
            rw [s2] at q
            rcases e : Z.2.2.1 j with _ | _
            · rw [e] at q
              have := of_decide_eq_false q.symm
              have := s1.2; omega
            · have := (hT.2.2.2.1 j hj).mp e; omega
          obtain ⟨l1, -⟩ := lv s s1 s0
          rw [s2, ej, Nat.add_sub_cancel] at l1
          obtain ⟨-, -, p, p1, p2⟩ := hO.1 (gR s) _ (hb.1.2.gt s1).1 l1
          have := b p (Nat.zero_le _) p1
          rw [p2, l1] at this
          exact this
    · rcases c with c | ⟨p, -, p2, p3⟩
      · have c : R.2 = 0 := c
        rw [c]; exact Nat.zero_le _
      · obtain ⟨q1, q2, -⟩ := hO.2.1 p p2
        obtain ⟨s, s1, s2⟩ := hb.1.2.gx q1
        rcases eo : O.1 (O.2.1 p) with _ | v
        · exact absurd eo q2
        · have gx := (hO.1 _ v q1 eo).1
          have q := (hb.isC s1).2
          rw [s2, gx] at q
          have s0 : tyl S s = 0 := by
            have := of_decide_eq_false q.symm
            have := s1.2; omega
          obtain ⟨l1, l3⟩ := lv s s1 s0
          have l4 := (hT.2.2.2.2.2.1 (gC s) (hb.1.1.gt s1).1 l3).2.2.2.1
          rw [s2] at l1
          rw [l1] at p3
          have p3 : T.2.1 (fg + gC s) - 2 = R.2 := p3
          omega
end VAG
