/-! Where a bit comes from, by paths -/
/-- 0, 1, n + 2: the board's IN bit n; or the gate at a path -/
abbrev SR : Type := Nat ⊕ List Nat
/-- the type at a path in chip c0 -/
def tyr (S : PS) (c0 : Nat) (s : List Nat) : Nat := if s = [] then c0 + 2 else tyl S s
theorem tyr_n (S : PS) (c0 : Nat) : tyr S c0 [] = c0 + 2 := if_pos rfl
theorem tyr_s (S : PS) (c0 : Nat) (s : List Nat) (q : Nat) : tyr S c0 (s ++ [q]) = pty S q := by
  unfold tyr
  rw [if_neg (by simp), tyl_s]
def ast (ft tv gp : Nat → Int32) (S : PS) (c0 : Nat) (s : List Nat) (j : Nat) : SR ⊕ (List Nat × Nat) :=
  if j < inw S (tyr S c0 s) then
    if s = [] then .inl (.inl (2 + j)) else match tb_ ft tv gp S (tyr S c0 s.dropLast - 2) (s.getLastD 0) j with
      | none => .inl (.inl 0)
      | some (.inl r) => .inr (s.dropLast, r)
      | some (.inr z) => .inl (.inl z)
  else if tyr S c0 s ≤ 1 then .inl (.inr s) else match ta ft gp S (tyr S c0 s - 2) j with
    | none => .inl (.inl 0)
    | some z => .inr (s ++ [z.1], z.2)
def arn (ft tv gp : Nat → Int32) (S : PS) (c0 : Nat) : Nat → List Nat → Nat → Option SR
  | 0, s, j => match ast ft tv gp S c0 s j with
    | .inl r => some r
    | .inr _ => none
  | k + 1, s, j => match ast ft tv gp S c0 s j with
    | .inl r => some r
    | .inr y => arn ft tv gp S c0 k y.1 y.2
theorem pbn_g (S : PS) {i : Nat} (h : i ≤ 1) : pbn S i = inw S i + 1 := by
  have z : ¬ 1 < i := by omega
  unfold pbn inw
  rw [if_neg z, if_neg z]; split <;> rfl
section RUN
variable {ft tv gp : Nat → Int32} {S : PS} {c0 : Nat}
theorem ast_r {j : Nat} (h : j < inw S (c0 + 2)) : ast ft tv gp S c0 [] j = .inl (.inl (2 + j)) := by
  unfold ast; rw [tyr_n, if_pos h, if_pos rfl]
theorem ast_i {s : List Nat} {q j : Nat} (h : j < inw S (pty S q)) : ast ft tv gp S c0 (s ++ [q]) j = match tb_ ft tv gp S (tyr S c0 s - 2) q j with
      | none => .inl (.inl 0)
      | some (.inl r) => .inr (s, r)
      | some (.inr z) => .inl (.inl z) := by
  unfold ast
  rw [tyr_s, if_pos h, if_neg (by simp), List.dropLast_concat, List.getLastD_concat]
theorem ast_g {s : List Nat} {j : Nat} (h : ¬ j < inw S (tyr S c0 s)) (hg : tyr S c0 s ≤ 1) : ast ft tv gp S c0 s j = .inl (.inr s) := by
  unfold ast; rw [if_neg h, if_pos hg]
theorem ast_o {s : List Nat} {c j : Nat} (h : ¬ j < inw S (tyr S c0 s)) (hc : tyr S c0 s = c + 2) : ast ft tv gp S c0 s j = match ta ft gp S c j with
    | none => .inl (.inl 0)
    | some z => .inr (s ++ [z.1], z.2) := by
  unfold ast; rw [if_neg h, if_neg (by omega), hc]; rfl
theorem arn_l {k : Nat} {s : List Nat} {j : Nat} {r : SR} (h : ast ft tv gp S c0 s j = .inl r) : arn ft tv gp S c0 k s j = some r := by
  cases k with
  | zero => show (match ast ft tv gp S c0 s j with | .inl r => some r | .inr _ => none) = _; rw [h]
  | succ k => show (match ast ft tv gp S c0 s j with | .inl r => some r | .inr y => arn ft tv gp S c0 k y.1 y.2) = _; rw [h]
theorem arn_s {k : Nat} {s : List Nat} {j : Nat} {y : List Nat × Nat} (h : ast ft tv gp S c0 s j = .inr y) : arn ft tv gp S c0 (k + 1) s j = arn ft tv gp S c0 k y.1 y.2 := by
  show (match ast ft tv gp S c0 s j with | .inl r => some r | .inr y => arn ft tv gp S c0 k y.1 y.2) = _; rw [h]
theorem arn_0 {s : List Nat} {j : Nat} {y : List Nat × Nat} (h : ast ft tv gp S c0 s j = .inr y) : arn ft tv gp S c0 0 s j = none := by
  show (match ast ft tv gp S c0 s j with | .inl r => some r | .inr _ => none) = _; rw [h]
/-- the tables stay within the bits that are there -/
theorem ta_ok (wf : WFS ft gp S) {c : Nat} (hc : c < S.1 15) {j : Nat} {z : Nat × Nat} (h : ta ft gp S c j = some z) : ptc S c z.1 ∧ inw S (pty S z.1) ≤ z.2 ∧ z.2 < pbn S (pty S z.1) := by
  have key : ∀ (Q : TA → Prop), Q (fun _ => none) → (∀ q l T, ptc S c q → S.2.2.1 26 q ≤ l → l < S.2.2.1 26 (q + 1) → Q T → Q (u1 ft gp S c (pty S q) q l T)) → Q (ta ft gp S c) := by
    intro Q h0 hs
    have hv : ∀ q, ptc S c q → ∀ k l T, S.2.2.1 26 q ≤ l → l + k ≤ S.2.2.1 26 (q + 1) → Q T → Q (v1 ft gp S c (pty S q) q k l T) := by
      intro q hq k
      induction k with
      | zero => intro l T _ _ hT; exact hT
      | succ k ih => intro l T h1 h2 hT; exact ih (l + 1) _ (by omega) (by omega) (hs q l T hq h1 (by omega) hT)
    have hw : ∀ k q T, S.2.2.1 23 c ≤ q → q + k ≤ S.2.2.1 23 (c + 1) → Q T → Q (w1 ft gp S c k q T) := by
      intro k
      induction k with
      | zero => intro q T _ _ hT; exact hT
      | succ k ih =>
        intro q T h1 h2 hT
        refine ih (q + 1) _ (by omega) (by omega) ?_
        by_cases e : S.2.2.1 26 q ≤ S.2.2.1 26 (q + 1)
        · exact hv q ⟨h1, by omega⟩ _ _ _ (Nat.le_refl _) (by omega) hT
        · rw [show S.2.2.1 26 (q + 1) - S.2.2.1 26 q = 0 by omega]; exact hT
    unfold ta
    by_cases e : S.2.2.1 23 c ≤ S.2.2.1 23 (c + 1)
    · exact hw _ _ _ (Nat.le_refl _) (by omega) h0
    · rw [show S.2.2.1 23 (c + 1) - S.2.2.1 23 c = 0 by omega]; exact h0
  refine key (fun T => ∀ j z, T j = some z → ptc S c z.1 ∧ inw S (pty S z.1) ≤ z.2 ∧ z.2 < pbn S (pty S z.1)) (fun j z e => by cases e) ?_ j z h
  intro q l T hq l1 l2 hT j z e
  unfold u1 at e
  split at e
  · rename_i g
    cases e
    have w := ((wf c q hc hq).2 l l1 l2).1 g.1
    exact ⟨hq, by show inw S (pty S q) ≤ _; omega, by show _ < pbn S (pty S q); omega⟩
  · exact hT j z e
theorem tb_ok (wf : WFS ft gp S) {c q : Nat} (hc : c < S.1 15) (hq : ptc S c q) {j : Nat} {z : Nat ⊕ Nat} (h : tb_ ft tv gp S c q j = some z) : (∀ r, z = .inl r → r < ow S c) ∧ ∀ v, z = .inr v → v ≤ 1 := by
  have hv : ∀ k l T, S.2.2.1 26 q ≤ l → l + k ≤ S.2.2.1 26 (q + 1) → (∀ j z, T j = some z → (∀ r, z = Sum.inl r → r < ow S c) ∧ ∀ v, z = Sum.inr v → v ≤ 1) → ∀ j z, v2 ft tv gp S c (pty S q) k l T j = some z → (∀ r, z = Sum.inl r → r < ow S c) ∧ ∀ v, z = Sum.inr v → v ≤ 1 := by
    intro k
    induction k with
    | zero => intro l T _ _ hT; exact hT
    | succ k ih =>
      intro l T h1 h2 hT
      refine ih (l + 1) _ (by omega) (by omega) (fun j z e => ?_)
      unfold u2 at e
      split at e
      · rename_i g
        have w := (wf c q hc hq).2 l h1 (by omega)
        by_cases cb : q_cb S l = true
        · rw [if_pos cb] at e
          cases e
          exact ⟨fun r e => (by cases e), fun v e => (by cases e; unfold q_cz; split <;> omega)⟩
        · rw [if_neg cb] at e
          cases e
          have w3 := w.2.2 (Bool.eq_false_iff.mpr cb)
          exact ⟨fun r e => (by cases e; omega), fun v e => (by cases e)⟩
      · exact hT j z e
  unfold tb_ at h
  by_cases e : S.2.2.1 26 q ≤ S.2.2.1 26 (q + 1)
  · exact hv _ _ _ (Nat.le_refl _) (by omega) (fun j z e => by cases e) j z h
  · rw [show S.2.2.1 26 (q + 1) - S.2.2.1 26 q = 0 by omega] at h; cases h
theorem vpp_sn {s : List Nat} {q : Nat} : ∀ i, vpp S i (s ++ [q]) → vpp S i s ∧ ∃ c, (if s = [] then i else tyl S s) = c + 2 ∧ ptc S c q := by
  induction s with
  | nil =>
    intro i h
    exact ⟨trivial, i - 2, by rw [if_pos rfl]; have := h.1; omega, h.2.1⟩
  | cons a s ih =>
    intro i h
    have h : vpp S i (a :: (s ++ [q])) := h
    obtain ⟨x1, c, x2, x3⟩ := ih (pty S a) h.2.2
    refine ⟨⟨h.1, h.2.1, x1⟩, c, ?_, x3⟩
    rw [if_neg (List.cons_ne_nil _ _)]
    by_cases z : s = []
    · rw [if_pos z] at x2; rw [z, tyl_1]; exact x2
    · rw [if_neg z] at x2; rw [tyl_c S a z]; exact x2
theorem snoc_or (s : List Nat) : s = [] ∨ ∃ t q, s = t ++ [q] := by
  cases h : s.length with
  | zero => exact Or.inl (List.eq_nil_of_length_eq_zero h)
  | succ n => exact Or.inr (snoc_ex s n h)
/-- chips on paths are chips -/
theorem vpp_lt (wf : WFS ft gp S) (h0 : c0 < S.1 15) : ∀ n (s : List Nat), s.length = n → vpp S (c0 + 2) s → tyr S c0 s < S.1 15 + 2
  | 0, s, hn, _ => by rw [List.eq_nil_of_length_eq_zero hn, tyr_n]; omega
  | n + 1, s, hn, h => by
    obtain ⟨t, q, rfl⟩ := snoc_ex s n hn
    obtain ⟨x1, c, x2, x3⟩ := vpp_sn _ h
    rw [tyr_s]
    have := vpp_lt wf h0 n t (by rw [List.length_append, List.length_singleton] at hn; omega) x1
    unfold tyr at this
    rw [x2] at this
    exact (wf c q (by omega) x3).1
/-- down: from a chip's own bit -/
theorem run_dn {rk : Nat → Nat} (wf : WFS ft gp S) (h0 : c0 < S.1 15) (hrk : ∀ c q, c < S.1 15 → ptc S c q → 1 < pty S q → rk (pty S q - 2) < rk c) : ∀ N s c j, vpp S (c0 + 2) s → tyr S c0 s = c + 2 → rk c < N → inw S (c + 2) ≤ j → ∃ k r t, arn ft tv gp S c0 k s j = some r ∧ vpp S (c0 + 2) t ∧ t.length = s.length + k
  | 0, _, _, _, _, _, h, _ => by omega
  | N + 1, s, c, j, hv, hc, hr, hj => by
    have hc15 : c < S.1 15 := by have := vpp_lt wf h0 _ s rfl hv; omega
    have a := ast_o (ft := ft) (tv := tv) (gp := gp) (c0 := c0) (s := s) (c := c) (j := j) (by rw [hc]; omega) hc
    rcases e : ta ft gp S c j with _ | z
    · rw [e] at a
      exact ⟨0, _, s, arn_l a, hv, rfl⟩
    · rw [e] at a
      obtain ⟨z1, z2, z3⟩ := ta_ok wf hc15 e
      have hv2 : vpp S (c0 + 2) (s ++ [z.1]) := vpp_ch z1 s _ hv hc
      by_cases g : 1 < pty S z.1
      · obtain ⟨k, r, t, x1, x2, x3⟩ := run_dn wf h0 hrk N (s ++ [z.1]) (pty S z.1 - 2) z.2 hv2 (by rw [tyr_s]; omega) (by have := hrk c z.1 hc15 z1 g; omega) (by rw [show pty S z.1 - 2 + 2 = pty S z.1 by omega]; exact z2)
        exact ⟨k + 1, r, t, (arn_s a).trans x1, x2, by rw [x3, List.length_append, List.length_singleton]; omega⟩
      · refine ⟨1, .inr (s ++ [z.1]), s ++ [z.1], (arn_s a).trans (arn_l (ast_g (by rw [tyr_s]; show ¬ z.2 < _; omega) (by rw [tyr_s]; omega))), hv2, by rw [List.length_append, List.length_singleton]⟩
/-- up, and down again: from any bit -/
theorem run_up {rk : Nat → Nat} (wf : WFS ft gp S) (h0 : c0 < S.1 15) (hrk : ∀ c q, c < S.1 15 → ptc S c q → 1 < pty S q → rk (pty S q - 2) < rk c) : ∀ n s j, s.length = n → vpp S (c0 + 2) s → j < inw S (tyr S c0 s) → ∃ k r t, arn ft tv gp S c0 k s j = some r ∧ vpp S (c0 + 2) t ∧ k ≤ s.length + t.length
  | 0, s, j, hn, hv, hj => by
    have e := List.eq_nil_of_length_eq_zero hn
    subst e
    rw [tyr_n] at hj
    exact ⟨0, _, [], arn_l (ast_r hj), hv, Nat.zero_le _⟩
  | n + 1, s, j, hn, hv, hj => by
    obtain ⟨t, q, rfl⟩ := snoc_ex s n hn
    rw [List.length_append, List.length_singleton] at hn
    obtain ⟨x1, c, x2, x3⟩ := vpp_sn _ hv
    rw [tyr_s] at hj
    have x2 : tyr S c0 t = c + 2 := x2
    have hc15 : c < S.1 15 := by have := vpp_lt wf h0 _ t rfl x1; omega
    have a := ast_i (ft := ft) (tv := tv) (gp := gp) (c0 := c0) (s := t) hj
    rw [x2] at a
    have a : ast ft tv gp S c0 (t ++ [q]) j = match tb_ ft tv gp S c q j with
      | none => .inl (.inl 0)
      | some (.inl r) => .inr (t, r)
      | some (.inr z) => .inl (.inl z) := a
    rcases e : tb_ ft tv gp S c q j with _ | z
    · rw [e] at a
      exact ⟨0, _, t, arn_l a, x1, Nat.zero_le _⟩
    · rcases z with r | z
      · rw [e] at a
        rw [List.length_append, List.length_singleton]
        by_cases g : r < inw S (c + 2)
        · obtain ⟨k, r', t', y1, y2, y3⟩ := run_up wf h0 hrk n t r (by omega) x1 (by rw [x2]; exact g)
          exact ⟨k + 1, r', t', (arn_s a).trans y1, y2, by omega⟩
        · obtain ⟨k, r', t', y1, y2, y3⟩ := run_dn (tv := tv) wf h0 hrk (rk c + 1) t c r x1 x2 (by omega) (by omega)
          exact ⟨k + 1, r', t', (arn_s a).trans y1, y2, by omega⟩
      · rw [e] at a
        exact ⟨0, _, t, arn_l a, x1, Nat.zero_le _⟩
end RUN
/-- a whole layout: chip c0 at bit 0 -/
def LTF {X : Type} (eb ec : Nat → X) (e0 : X) (ft tv gp : Nat → Int32) (S : PS) (c0 : Nat) (b g : List Nat → Nat) (fr : Nat → X) (n1 m1 : Nat) (K : Nat → Nat → Nat → Prop) : Prop := b [] = 0 ∧ ow S c0 ≤ n1 ∧ LAF eb ec e0 ft tv gp S (vin S c0) b g fr (ow S c0) n1 0 m1 K ∧ CHF eb ec e0 ft tv gp S c0 0 (fun r => b [r]) fr
section LTS
variable {X : Type} {eb ec : Nat → X} {e0 : X} {ft tv gp : Nat → Int32} {S : PS} {c0 : Nat} {b g : List Nat → Nat} {fr : Nat → X} {n1 m1 : Nat} {K : Nat → Nat → Nat → Prop}
theorem LTF.chf (h : LTF eb ec e0 ft tv gp S c0 b g fr n1 m1 K) {s : List Nat} {c : Nat} (hv : vpp S (c0 + 2) s) (hc : tyr S c0 s = c + 2) : CHF eb ec e0 ft tv gp S c (b s) (fun q => b (s ++ [q])) fr := by
  obtain ⟨h1, h2, h3, h4⟩ := h
  by_cases e : s = []
  · subst e
    rw [tyr_n] at hc
    have : c = c0 := by omega
    subst this
    rw [h1]; exact h4
  · unfold tyr at hc
    rw [if_neg e] at hc
    exact h3.2 s ⟨e, hv⟩ c hc
theorem LTF.le (h : LTF eb ec e0 ft tv gp S c0 b g fr n1 m1 K) {s : List Nat} (hv : vpp S (c0 + 2) s) : b s + pbn S (tyr S c0 s) ≤ n1 := by
  obtain ⟨h1, h2, h3, h4⟩ := h
  by_cases e : s = []
  · subst e
    rw [tyr_n, h1]
    unfold pbn
    rw [if_pos (by omega)]
    show 0 + ow S c0 ≤ n1
    omega
  · unfold tyr
    rw [if_neg e]
    exact (h3.1.1 s ⟨e, hv⟩).1.2
theorem LTF.len (h : LTF eb ec e0 ft tv gp S c0 b g fr n1 m1 K) (wf : WFS ft gp S) (h0 : c0 < S.1 15) (ho : ∀ c, c < S.1 15 → 2 ≤ ow S c) : ∀ n s, s.length = n → vpp S (c0 + 2) s → 2 * s.length ≤ b s
  | 0, s, hn, _ => by omega
  | n + 1, s, hn, hv => by
    obtain ⟨t, q, rfl⟩ := snoc_ex s n hn
    rw [List.length_append, List.length_singleton] at hn ⊢
    obtain ⟨x1, c, x2, x3⟩ := vpp_sn _ hv
    have x2 : tyr S c0 t = c + 2 := x2
    have hc15 : c < S.1 15 := by have := vpp_lt wf h0 _ t rfl x1; omega
    have a := ((h.chf x1 x2).2 q x3).1
    have := h.len wf h0 ho n t (by omega) x1
    have := ho c hc15
    have a : b t + ow S c ≤ b (t ++ [q]) := a
    omega
theorem LTF.len2 (h : LTF eb ec e0 ft tv gp S c0 b g fr n1 m1 K) (wf : WFS ft gp S) (h0 : c0 < S.1 15) (ho : ∀ c, c < S.1 15 → 2 ≤ ow S c) {s : List Nat} (hv : vpp S (c0 + 2) s) : 2 * s.length + 2 ≤ n1 := by
  have a := h.len wf h0 ho _ s rfl hv
  have b' := h.le hv
  have : 2 ≤ pbn S (tyr S c0 s) := by
    have l := vpp_lt wf h0 _ s rfl hv
    unfold pbn
    split
    · exact ho _ (by omega)
    · split <;> omega
  omega
/-- one step, in the rows -/
theorem LTF.stp (h : LTF eb ec e0 ft tv gp S c0 b g fr n1 m1 K) (wf : WFS ft gp S) (h0 : c0 < S.1 15) {s : List Nat} {j : Nat} (hv : vpp S (c0 + 2) s) (hj : j < pbn S (tyr S c0 s)) :
    (∀ y, ast ft tv gp S c0 s j = .inr y → fr (b s + j) = eb (b y.1 + y.2) ∧ vpp S (c0 + 2) y.1 ∧ y.2 < pbn S (tyr S c0 y.1)) ∧
    ∀ r, ast ft tv gp S c0 s j = .inl r → (s = [] ∧ j < inw S (c0 + 2) ∧ r = .inl (2 + j)) ∨ (r = .inl 0 ∧ fr (b s + j) = e0 ∧ ¬ (s = [] ∧ j < inw S (c0 + 2)) ∧ ¬ (tyr S c0 s ≤ 1 ∧ j = inw S (tyr S c0 s))) ∨ (∃ z, z ≤ 1 ∧ r = .inl z ∧ fr (b s + j) = ec z ∧ ¬ (s = [] ∧ j < inw S (c0 + 2)) ∧ ¬ (tyr S c0 s ≤ 1 ∧ j = inw S (tyr S c0 s))) ∨ (tyr S c0 s ≤ 1 ∧ j = inw S (tyr S c0 s) ∧ r = .inr s) := by
  by_cases hi : j < inw S (tyr S c0 s)
  · rcases snoc_or s with e | ⟨t, q, e⟩
    · subst e
      rw [tyr_n] at hi
      rw [ast_r hi]
      exact ⟨fun y e => (by cases e), fun r e => (by cases e; exact Or.inl ⟨rfl, hi, rfl⟩)⟩
    · subst e
      rw [tyr_s] at hi ⊢
      obtain ⟨x1, c, x2, x3⟩ := vpp_sn _ hv
      have x2 : tyr S c0 t = c + 2 := x2
      have hc15 : c < S.1 15 := by have := vpp_lt wf h0 _ t rfl x1; omega
      have R := ((h.chf x1 x2).2 q x3).2 j hi
      have R : fr (b (t ++ [q]) + j) = en2 eb ec e0 (b t) (tb_ ft tv gp S c q j) := R
      rw [ast_i hi, x2]
      have nn : ¬ (t ++ [q] = [] ∧ j < inw S (c0 + 2)) := fun z => absurd z.1 (by simp)
      show (∀ y, (match tb_ ft tv gp S c q j with | none => Sum.inl (Sum.inl 0) | some (.inl r) => .inr (t, r) | some (.inr z) => .inl (.inl z) : SR ⊕ (List Nat × Nat)) = .inr y → _) ∧ ∀ r, (match tb_ ft tv gp S c q j with | none => Sum.inl (Sum.inl 0) | some (.inl r) => .inr (t, r) | some (.inr z) => .inl (.inl z) : SR ⊕ (List Nat × Nat)) = .inl r → _
      rcases e : tb_ ft tv gp S c q j with _ | z
      · rw [e] at R
        exact ⟨fun y e => (by cases e), fun r e => (by cases e; exact Or.inr (Or.inl ⟨rfl, R, nn, fun z => by omega⟩))⟩
      · have ok := tb_ok wf hc15 x3 e
        rcases z with r | z
        · rw [e] at R
          refine ⟨fun y e => ?_, fun r e => by cases e⟩
          cases e
          refine ⟨R, x1, ?_⟩
          rw [x2]
          unfold pbn
          rw [if_pos (by omega)]
          exact ok.1 r rfl
        · rw [e] at R
          exact ⟨fun y e => (by cases e), fun r e => (by cases e; exact Or.inr (Or.inr (Or.inl ⟨z, ok.2 z rfl, rfl, R, nn, fun z => by omega⟩)))⟩
  · by_cases hg : tyr S c0 s ≤ 1
    · have ej : j = inw S (tyr S c0 s) := by
        have := pbn_g S hg
        omega
      rw [ast_g hi hg]
      exact ⟨fun y e => (by cases e), fun r e => (by cases e; exact Or.inr (Or.inr (Or.inr ⟨hg, ej, rfl⟩)))⟩
    · obtain ⟨c, hc⟩ : ∃ c, tyr S c0 s = c + 2 := ⟨tyr S c0 s - 2, by omega⟩
      have hc15 : c < S.1 15 := by have := vpp_lt wf h0 _ s rfl hv; omega
      have po : pbn S (tyr S c0 s) = ow S c := by rw [hc]; unfold pbn; rw [if_pos (by omega)]; rfl
      have R := (h.chf hv hc).1 j (by rw [hc] at hi; omega) (by omega)
      rw [ast_o hi hc]
      have nn : ¬ (s = [] ∧ j < inw S (c0 + 2)) := fun z => hi (by rw [z.1, tyr_n]; exact z.2)
      rcases e : ta ft gp S c j with _ | z
      · rw [e] at R
        exact ⟨fun y e => (by cases e), fun r e => (by cases e; exact Or.inr (Or.inl ⟨rfl, R, nn, fun z => hg z.1⟩))⟩
      · rw [e] at R
        refine ⟨fun y e => ?_, fun r e => by cases e⟩
        cases e
        obtain ⟨z1, z2, z3⟩ := ta_ok wf hc15 e
        exact ⟨R, vpp_ch z1 s _ hv hc, by rw [tyr_s]; exact z3⟩
end LTS
