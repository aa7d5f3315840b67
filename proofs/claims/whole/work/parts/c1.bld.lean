/-! The class's board: signals and the start of the order -/
/-- chips that are ready to become a board -/
def BRD (ft gp : Nat → Int32) (S : PS) (rk : Nat → Nat) (c0 : Nat) : Prop := WFS ft gp S ∧ RKS S rk ∧ (∀ c, c < S.1 15 → S.2.2.1 23 c ≤ S.2.2.1 23 (c + 1)) ∧ (∀ c, c < S.1 15 → 2 ≤ ow S c) ∧ inw S (c0 + 2) ≤ 128 ∧ ow S c0 ≤ 8000 ∧ c0 < S.1 15
section BLD
variable {ft tv gp : Nat → Int32} {S : PS} {c0 : Nat} {b g : List Nat → Nat} {rk : Nat → Nat}
/-- a source is what it can be -/
def sok (S : PS) (c0 fg : Nat) (r : SR) : Prop := match r with
  | .inl n => n < fg
  | .inr t => gtp S c0 t
theorem arn_ok {X : Type} {eb ec : Nat → X} {e0 : X} {fr : Nat → X} {n1 m1 : Nat} {K : Nat → Nat → Nat → Prop} (h : LTF eb ec e0 ft tv gp S c0 b g fr n1 m1 K) (wf : WFS ft gp S) (h0 : c0 < S.1 15) : ∀ k s j r, vpp S (c0 + 2) s → j < pbn S (tyr S c0 s) → arn ft tv gp S c0 k s j = some r → sok S c0 (2 + inw S (c0 + 2)) r
  | k, s, j, r, hv, hj, hr => by
    obtain ⟨st1, st2⟩ := h.stp wf h0 hv hj
    rcases e : ast ft tv gp S c0 s j with r' | y
    · have a := arn_l (k := k) e
      rw [hr] at a
      cases a
      rcases st2 r e with ⟨x1, x2, x3⟩ | ⟨x1, -⟩ | ⟨z, z1, x1, -⟩ | ⟨x1, x2, x3⟩
      · rw [x3]; show 2 + j < _; omega
      · rw [x1]; show 0 < _; omega
      · rw [x1]; show z < _; omega
      · rw [x3]
        obtain ⟨y1, y2⟩ := tyr_g x1
        exact ⟨⟨y1, hv⟩, by omega⟩
    · cases k with
      | zero => rw [arn_0 e] at hr; cases hr
      | succ k =>
        rw [arn_s e] at hr
        obtain ⟨-, y2, y3⟩ := st1 y e
        exact arn_ok h wf h0 k y.1 y.2 r y2 y3 hr
theorem sr_ok {X : Type} {eb ec : Nat → X} {e0 : X} {fr : Nat → X} {n1 m1 : Nat} {K : Nat → Nat → Nat → Prop} (h : LTF eb ec e0 ft tv gp S c0 b g fr n1 m1 K) (wf : WFS ft gp S) (h0 : c0 < S.1 15) {s : List Nat} {j : Nat} (hv : vpp S (c0 + 2) s) (hj : j < pbn S (tyr S c0 s)) : sok S c0 (2 + inw S (c0 + 2)) (sr_ ft tv gp S c0 s j) := by
  unfold sr_
  rcases e : arn ft tv gp S c0 8000 s j with _ | r
  · show 0 < _; omega
  · exact arn_ok h wf h0 8000 s j r hv hj e
theorem gtp_t {s : List Nat} (hs : gtp S c0 s) : vpp S (c0 + 2) s ∧ tyr S c0 s = tyl S s := ⟨hs.1.2, by unfold tyr; rw [if_neg hs.1.1]⟩
/-- what build leaves for the order of the Nands -/
theorem bld_f {A : T6} (hb : BRD ft gp S rk c0) (h : BIZ A) (ht : (bzl ft tv gp S c0 A).1 = true) (st od : Nat → Nat) :
    ∃ b g, LTF Sum.inl Sum.inr (Sum.inr 0) ft tv gp S c0 b g (bzl ft tv gp S c0 A).2.2.1 (bzl ft tv gp S c0 A).2.1 (bzl ft tv gp S c0 A).2.2.2.2.2.2.2.2.2 (KGC S (2 + inw S (c0 + 2)) (bzl ft tv gp S c0 A).2) ∧
      (∀ s, gtp S c0 s → (fsg (bzl ft tv gp S c0 A).2.2.1 (bzl ft tv gp S c0 A).2.1 (bzl ft tv gp S c0 A).2.2.2.2.2.2.2.2.2 0 ((bzl ft tv gp S c0 A).2.2.2.2.1, (bzl ft tv gp S c0 A).2.2.2.2.2.1)).1 (g s) = cod (2 + inw S (c0 + 2)) g (sr_ ft tv gp S c0 s 0) ∧ (fsg (bzl ft tv gp S c0 A).2.2.1 (bzl ft tv gp S c0 A).2.1 (bzl ft tv gp S c0 A).2.2.2.2.2.2.2.2.2 0 ((bzl ft tv gp S c0 A).2.2.2.2.1, (bzl ft tv gp S c0 A).2.2.2.2.2.1)).2 (g s) = cod (2 + inw S (c0 + 2)) g (sr_ ft tv gp S c0 s (inw S (tyl S s) - 1))) ∧
      (∀ s j, vpp S (c0 + 2) s → j < pbn S (tyr S c0 s) → sgo (bzl ft tv gp S c0 A).2.2.1 (bzl ft tv gp S c0 A).2.1 (b s + j) = cod (2 + inw S (c0 + 2)) g (sr_ ft tv gp S c0 s j)) ∧
      (∀ x, x < (bzl ft tv gp S c0 A).2.2.2.2.2.2.2.2.2 → (fsg (bzl ft tv gp S c0 A).2.2.1 (bzl ft tv gp S c0 A).2.1 (bzl ft tv gp S c0 A).2.2.2.2.2.2.2.2.2 0 ((bzl ft tv gp S c0 A).2.2.2.2.1, (bzl ft tv gp S c0 A).2.2.2.2.2.1)).1 x < 2 + inw S (c0 + 2) + (bzl ft tv gp S c0 A).2.2.2.2.2.2.2.2.2 ∧ (fsg (bzl ft tv gp S c0 A).2.2.1 (bzl ft tv gp S c0 A).2.1 (bzl ft tv gp S c0 A).2.2.2.2.2.2.2.2.2 0 ((bzl ft tv gp S c0 A).2.2.2.2.1, (bzl ft tv gp S c0 A).2.2.2.2.2.1)).2 x < 2 + inw S (c0 + 2) + (bzl ft tv gp S c0 A).2.2.2.2.2.2.2.2.2) ∧
      AI (2 + inw S (c0 + 2)) (bzl ft tv gp S c0 A).2.2.2.2.2.2.2.2.2 0 (st, (bzl ft tv gp S c0 A).2.2.2.2.2.2.2.1, od, 0, 0) ∧
      NI (bzl ft tv gp S c0 A).2.2.2.1 (fsg (bzl ft tv gp S c0 A).2.2.1 (bzl ft tv gp S c0 A).2.1 (bzl ft tv gp S c0 A).2.2.2.2.2.2.2.2.2 0 ((bzl ft tv gp S c0 A).2.2.2.2.1, (bzl ft tv gp S c0 A).2.2.2.2.2.1)).1 (fsg (bzl ft tv gp S c0 A).2.2.1 (bzl ft tv gp S c0 A).2.1 (bzl ft tv gp S c0 A).2.2.2.2.2.2.2.2.2 0 ((bzl ft tv gp S c0 A).2.2.2.2.1, (bzl ft tv gp S c0 A).2.2.2.2.2.1)).2 (2 + inw S (c0 + 2)) (bzl ft tv gp S c0 A).2.2.2.2.2.2.2.2.2 0 (st, (bzl ft tv gp S c0 A).2.2.2.2.2.2.2.1, od, 0, 0) ∧
      BIL (2 + inw S (c0 + 2)) (bzl ft tv gp S c0 A).2 ∧ ∀ j, j < inw S (c0 + 2) → (bzl ft tv gp S c0 A).2.2.2.2.2.2.1 (2 + j) = false := by
  obtain ⟨wf, hr, m23, ho, hi, hw, h0⟩ := hb
  obtain ⟨b, g, l1, l2, l3, l4, l5⟩ := bzl_ltf (tv := tv) wf m23 h0 h hi hw ht
  generalize (bzl ft tv gp S c0 A).2 = Z at l1 l2 l3 l4 l5 ⊢
  have sg := fun s j hv hj => sgo_p (s := s) (j := j) l1 l2 wf h0 ho l3.2.1.1 hr.1 hv hj
  have fx := fun n => fsg_x (c := Z.2.1) (nb := Z.1) Z.2.2.2.2.2.2.2.2 0 (Z.2.2.2.1, Z.2.2.2.2.1) n
  have gt : ∀ s, gtp S c0 s → (fsg Z.2.1 Z.1 Z.2.2.2.2.2.2.2.2 0 (Z.2.2.2.1, Z.2.2.2.2.1)).1 (g s) = cod (2 + inw S (c0 + 2)) g (sr_ ft tv gp S c0 s 0) ∧ (fsg Z.2.1 Z.1 Z.2.2.2.2.2.2.2.2 0 (Z.2.2.2.1, Z.2.2.2.2.1)).2 (g s) = cod (2 + inw S (c0 + 2)) g (sr_ ft tv gp S c0 s (inw S (tyl S s) - 1)) := fun s hs => by
    obtain ⟨k1, k2, k3, k4, k5, k6, k7⟩ := l1.gt hs
    obtain ⟨v1, v2⟩ := gtp_t hs
    have pg := pbn_g S hs.2
    have iw : 1 ≤ inw S (tyl S s) := by
      unfold inw; rw [if_neg (show ¬ 1 < tyl S s by have := hs.2; omega)]; split <;> omega
    have f := fx (g s)
    rw [if_pos (by omega), if_pos (by omega)] at f
    refine ⟨f.1.trans ?_, f.2.trans ?_⟩
    · show sgo Z.2.1 Z.1 (Z.2.2.2.1 (g s)) = _
      rw [k3, ← sg s 0 v1 (by rw [v2]; omega), Nat.add_zero]
    · show sgo Z.2.1 Z.1 (Z.2.2.2.2.1 (g s)) = _
      rw [k4, ← sg s (inw S (tyl S s) - 1) v1 (by rw [v2]; omega)]
      congr 1; omega
  have cb : ∀ r, sok S c0 (2 + inw S (c0 + 2)) r → cod (2 + inw S (c0 + 2)) g r < 2 + inw S (c0 + 2) + Z.2.2.2.2.2.2.2.2 := fun r hr => by
    rcases r with n | t
    · have hr : n < 2 + inw S (c0 + 2) := hr
      show n < _; omega
    · have := (l1.gt (s := t) hr).1
      show 2 + inw S (c0 + 2) + g t < _; omega
  have lv : ∀ s, gtp S c0 s → Z.2.2.2.2.2.2.1 (2 + inw S (c0 + 2) + g s) = (if tyl S s = 1 then 2 else 1) ∧ Z.2.2.1 (g s) = decide (tyl S s = 1) := fun s hs => ⟨(l1.gt hs).2.2.2.2.2.2, (l1.gt hs).2.2.2.2.1⟩
  have lj : ∀ j, j < Z.2.2.2.2.2.2.2.2 → (Z.2.2.2.2.2.2.1 (2 + inw S (c0 + 2) + j) = 1 ∨ Z.2.2.2.2.2.2.1 (2 + inw S (c0 + 2) + j) = 2) ∧ (Z.2.2.1 j = true ↔ Z.2.2.2.2.2.2.1 (2 + inw S (c0 + 2) + j) = 2) := fun j hj => by
    obtain ⟨s, s1, s2⟩ := l1.gx hj
    obtain ⟨x1, x2⟩ := lv s s1
    rw [s2] at x1 x2
    rw [x1, x2]
    by_cases z : tyl S s = 1
    · rw [if_pos z]; exact ⟨Or.inr rfl, ⟨fun _ => rfl, fun _ => decide_eq_true z⟩⟩
    · rw [if_neg z]; exact ⟨Or.inl rfl, ⟨fun w => absurd (of_decide_eq_true w) z, fun w => by omega⟩⟩
  have c0' : ∀ (p : Nat → Bool) n, (∀ j, j < n → p j = false) → cns p n = 0 := by
    intro p n
    induction n with
    | zero => intro _; rfl
    | succ n ih =>
      intro hh
      show cns p n + (if p n = true then 1 else 0) = 0
      rw [ih (fun j hj => hh j (by omega)), hh n (by omega)]; rfl
  have inl : ∀ x, x < Z.2.2.2.2.2.2.2.2 → (fsg Z.2.1 Z.1 Z.2.2.2.2.2.2.2.2 0 (Z.2.2.2.1, Z.2.2.2.2.1)).1 x < 2 + inw S (c0 + 2) + Z.2.2.2.2.2.2.2.2 ∧ (fsg Z.2.1 Z.1 Z.2.2.2.2.2.2.2.2 0 (Z.2.2.2.1, Z.2.2.2.2.1)).2 x < 2 + inw S (c0 + 2) + Z.2.2.2.2.2.2.2.2 := fun x hx => by
    obtain ⟨s, s1, s2⟩ := l1.gx hx
    obtain ⟨g1, g2⟩ := gt s s1
    obtain ⟨v1, v2⟩ := gtp_t s1
    have pg := pbn_g S s1.2
    rw [s2] at g1 g2
    rw [g1, g2]
    exact ⟨cb _ (sr_ok l1 wf h0 v1 (by rw [v2]; omega)), cb _ (sr_ok l1 wf h0 v1 (by rw [v2]; omega))⟩
  refine ⟨b, g, l1, gt, sg, inl, ?_, ?_, l3, l5⟩
  · refine ⟨fun i hi => by omega, fun i j _ hj => by omega, c0' _ _ (fun j hj => ?_), c0' _ _ (fun j hj => ?_), l3.2.2.2, fun j hj => ?_, Nat.le_refl _, fun j hj => absurd hj (Nat.not_lt_zero _)⟩
    · refine decide_eq_false (fun z => ?_)
      have z : Z.2.2.2.2.2.2.1 (2 + inw S (c0 + 2) + j) = 0 := z
      rcases (lj j hj).1 with w | w <;> omega
    · refine decide_eq_false (fun z => ?_)
      have z : 3 ≤ Z.2.2.2.2.2.2.1 (2 + inw S (c0 + 2) + j) := z
      rcases (lj j hj).1 with w | w <;> omega
    · show Z.2.2.2.2.2.2.1 j ≤ 0 + 2
      by_cases z : j < 2 + inw S (c0 + 2)
      · rw [l3.2.2.2 j z]; omega
      · have := (lj (j - (2 + inw S (c0 + 2))) (by omega)).1
        rw [show 2 + inw S (c0 + 2) + (j - (2 + inw S (c0 + 2))) = j by omega] at this
        omega
  · refine ⟨fun i hi => by omega, fun i hi => by omega, fun j hj z => ?_, fun j hj => (lj j hj).2, l3.2.2.2, fun j hj z => ?_, fun p hp => absurd hp (Nat.not_lt_zero _), fun p p' _ hp => absurd hp (Nat.not_lt_zero _), Or.inl rfl⟩
    · have z : Z.2.2.2.2.2.2.1 (2 + inw S (c0 + 2) + j) = 0 := z
      rcases (lj j hj).1 with w | w <;> omega
    · have z : 3 ≤ Z.2.2.2.2.2.2.1 (2 + inw S (c0 + 2) + j) := z
      rcases (lj j hj).1 with w | w <;> omega
end BLD
