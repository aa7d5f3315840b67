/-! Paths: a part in a part in a part .. of a chip; where each stands in a layout -/
/-- q is a part of chip c -/
def ptc (S : PS) (c q : Nat) : Prop := S.2.2.1 23 c ≤ q ∧ q < S.2.2.1 23 (c + 1)
def vpp (S : PS) : Nat → List Nat → Prop
  | _, [] => True
  | i, q :: t => 1 < i ∧ ptc S (i - 2) q ∧ vpp S (pty S q) t
/-- the type at the path's end -/
def tyl (S : PS) : List Nat → Nat
  | [] => 0
  | q :: t => if t = [] then pty S q else tyl S t
theorem tyl_1 (S : PS) (q : Nat) : tyl S [q] = pty S q := if_pos rfl
theorem tyl_c (S : PS) (q : Nat) {t : List Nat} (h : t ≠ []) : tyl S (q :: t) = tyl S t := if_neg h
theorem vpp_ch {S : PS} {c q : Nat} (hq : ptc S c q) : ∀ t i, vpp S i t → (if t = [] then i else tyl S t) = c + 2 → vpp S i (t ++ [q])
  | [], i, _, e => by
    rw [if_pos rfl] at e
    subst e
    exact ⟨by omega, hq, trivial⟩
  | a :: t, i, h, e => by
    rw [if_neg (List.cons_ne_nil _ _)] at e
    refine ⟨h.1, h.2.1, vpp_ch hq t (pty S a) h.2.2 ?_⟩
    by_cases z : t = []
    · subst z; rw [if_pos rfl]; rw [tyl_1] at e; exact e
    · rw [if_neg z]; rw [tyl_c S a z] at e; exact e
/-- the paths that begin with part q -/
def vq (S : PS) (q : Nat) (s : List Nat) : Prop := ∃ t, s = q :: t ∧ vpp S (pty S q) t
theorem vq_ch {S : PS} {q c r : Nat} {s : List Nat} (h : vq S q s) (e : tyl S s = c + 2) (hr : ptc S c r) : vq S q (s ++ [r]) := by
  obtain ⟨t, rfl, ht⟩ := h
  refine ⟨t ++ [r], rfl, vpp_ch hr t _ ht ?_⟩
  by_cases z : t = []
  · subst z; rw [if_pos rfl]; rw [tyl_1] at e; exact e
  · rw [if_neg z]; rw [tyl_c S q z] at e; exact e
section LAF_
variable {X : Type} {eb ec : Nat → X} {e0 : X} {ft tv gp : Nat → Int32} {S : PS}
/-- a chip at base bs: its own bits and the IN bits of its parts -/
def CHF (eb ec : Nat → X) (e0 : X) (ft tv gp : Nat → Int32) (S : PS) (c bs : Nat) (b : Nat → Nat) (fr : Nat → X) : Prop := R1 eb e0 b S c bs (ta ft gp S c) fr ∧ ∀ q, ptc S c q → bs + ow S c ≤ b q ∧ R2 eb ec e0 S bs (pty S q) (b q) (tb_ ft tv gp S c q) fr
/-- what a layout tells of a set V of paths: bits from n0 to n1, gates from g0 to g1; K: what the rows tell of a gate -/
def LAI (S : PS) (V : List Nat → Prop) (b g : List Nat → Nat) (n0 n1 g0 g1 : Nat) (K : Nat → Nat → Nat → Prop) : Prop :=
  (∀ s, V s → (n0 ≤ b s ∧ b s + pbn S (tyl S s) ≤ n1) ∧ (tyl S s ≤ 1 → (g0 ≤ g s ∧ g s < g1) ∧ K (g s) (b s) (tyl S s))) ∧
  (∀ s s', V s → V s' → s ≠ s' → (b s + pbn S (tyl S s) ≤ b s' ∨ b s' + pbn S (tyl S s') ≤ b s) ∧ (tyl S s ≤ 1 → tyl S s' ≤ 1 → g s ≠ g s')) ∧
  ∀ n, g0 ≤ n → n < g1 → ∃ s, V s ∧ tyl S s ≤ 1 ∧ g s = n
/-- .. and of the chips on W -/
def LAW (eb ec : Nat → X) (e0 : X) (ft tv gp : Nat → Int32) (S : PS) (W : List Nat → Prop) (b : List Nat → Nat) (fr : Nat → X) : Prop := ∀ s, W s → ∀ c, tyl S s = c + 2 → CHF eb ec e0 ft tv gp S c (b s) (fun q => b (s ++ [q])) fr
def LAF (eb ec : Nat → X) (e0 : X) (ft tv gp : Nat → Int32) (S : PS) (V : List Nat → Prop) (b g : List Nat → Nat) (fr : Nat → X) (n0 n1 g0 g1 : Nat) (K : Nat → Nat → Nat → Prop) : Prop := LAI S V b g n0 n1 g0 g1 K ∧ LAW eb ec e0 ft tv gp S V b fr
theorem R1.cg {b b' : Nat → Nat} {c bs : Nat} {T : TA} {fr fr' : Nat → X} (h : R1 eb e0 b S c bs T fr) (hf : ∀ j, inw S (c + 2) ≤ j → j < ow S c → fr' (bs + j) = fr (bs + j)) (hb : ∀ j z, T j = some z → b' z.1 = b z.1) : R1 eb e0 b' S c bs T fr' := fun j j1 j2 => by
  rw [hf j j1 j2, h j j1 j2]
  unfold en1
  rcases e : T j with _ | z
  · rfl
  · show eb (b z.1 + z.2) = eb (b' z.1 + z.2)
    rw [hb j z e]
theorem R2.cg {bs i pb : Nat} {T : TB} {fr fr' : Nat → X} (h : R2 eb ec e0 S bs i pb T fr) (hf : ∀ j, j < inw S i → fr' (pb + j) = fr (pb + j)) : R2 eb ec e0 S bs i pb T fr' := fun j j1 => by rw [hf j j1]; exact h j j1
/-- the tables tell of the chip's own parts alone -/
def TQ (a z : Nat) (T : TA) : Prop := ∀ j w, T j = some w → a ≤ w.1 ∧ w.1 < z
theorem TQ_u1 {c i q l a z : Nat} {T : TA} (h : TQ a z T) (hq : a ≤ q ∧ q < z) : TQ a z (u1 ft gp S c i q l T) := fun j w e => by
  unfold u1 at e
  split at e
  · cases e; exact hq
  · exact h j w e
theorem TQ_v1 {c i q a z : Nat} (hq : a ≤ q ∧ q < z) : ∀ k l T, TQ a z T → TQ a z (v1 ft gp S c i q k l T)
  | 0, _, _, h => h
  | k + 1, l, T, h => TQ_v1 hq k (l + 1) _ (TQ_u1 h hq)
theorem TQ_w1 {c a z : Nat} : ∀ k q T, a ≤ q → q + k ≤ z → TQ a z T → TQ a z (w1 ft gp S c k q T)
  | 0, _, _, _, _, h => h
  | k + 1, q, T, h1, h2, h => TQ_w1 k (q + 1) _ (by omega) (by omega) (TQ_v1 ⟨h1, by omega⟩ _ _ _ h)
theorem TQ_ta (c : Nat) : TQ (S.2.2.1 23 c) (S.2.2.1 23 (c + 1)) (ta ft gp S c) := by
  unfold ta
  by_cases h : S.2.2.1 23 c ≤ S.2.2.1 23 (c + 1)
  · exact TQ_w1 _ _ _ (Nat.le_refl _) (by omega) (fun j w e => by cases e)
  · rw [show S.2.2.1 23 (c + 1) - S.2.2.1 23 c = 0 by omega]; exact fun j w e => by cases e
/-- other places changed: what was told holds still -/
theorem CHF.cg {c bs : Nat} {b b' : Nat → Nat} {fr fr' : Nat → X} (h : CHF eb ec e0 ft tv gp S c bs b fr) (h1 : ∀ j, inw S (c + 2) ≤ j → j < ow S c → fr' (bs + j) = fr (bs + j)) (h2 : ∀ q, ptc S c q → ∀ j, j < inw S (pty S q) → fr' (b q + j) = fr (b q + j)) (hb : ∀ q, ptc S c q → b' q = b q) : CHF eb ec e0 ft tv gp S c bs b' fr' :=
  ⟨h.1.cg h1 (fun j z e => hb _ (TQ_ta c j z e)), fun q hq => by rw [hb q hq]; exact ⟨(h.2 q hq).1, (h.2 q hq).2.cg (h2 q hq)⟩⟩
theorem tyl_s (S : PS) (q : Nat) : ∀ s, tyl S (s ++ [q]) = pty S q
  | [] => tyl_1 S q
  | a :: s => by
    show tyl S (a :: (s ++ [q])) = _
    rw [tyl_c S a (by simp)]; exact tyl_s S q s
/-- two sets of paths, laid one behind the other -/
theorem LAI.app {V1 V2 : List Nat → Prop} {b1 g1 b2 g2 : List Nat → Nat} {n0 n1 n2 m0 m1 m2 : Nat} {K1 K2 : Nat → Nat → Nat → Prop} (D : List Nat → Bool)
    (h1 : LAI S V1 b1 g1 n0 n1 m0 m1 K1) (h2 : LAI S V2 b2 g2 n1 n2 m1 m2 K2) (d1 : ∀ s, V1 s → D s = true) (d2 : ∀ s, V2 s → D s = false)
    (hn : n0 ≤ n1 ∧ n1 ≤ n2) (hm : m0 ≤ m1 ∧ m1 ≤ m2) (hK : ∀ n w i, n < m1 → n0 ≤ w → w + pbn S i ≤ n1 → i ≤ 1 → K1 n w i → K2 n w i) :
    LAI S (fun s => V1 s ∨ V2 s) (fun s => if D s = true then b1 s else b2 s) (fun s => if D s = true then g1 s else g2 s) n0 n2 m0 m2 K2 := by
  obtain ⟨a1, a2, a3⟩ := h1
  obtain ⟨e1, e2, e3⟩ := h2
  have n2' : ∀ s, V2 s → ¬ D s = true := fun s hs => by rw [d2 s hs]; decide
  refine ⟨fun s hs => ?_, fun s s' hs hs' hne => ?_, fun n na nb => ?_⟩
  · rcases hs with hs | hs
    · obtain ⟨x1, x2⟩ := a1 s hs
      simp only [if_pos (d1 s hs)]
      refine ⟨⟨x1.1, by omega⟩, fun t => ?_⟩
      obtain ⟨y1, y2⟩ := x2 t
      exact ⟨⟨y1.1, by omega⟩, hK _ _ _ y1.2 x1.1 x1.2 t y2⟩
    · obtain ⟨x1, x2⟩ := e1 s hs
      simp only [if_neg (n2' s hs)]
      exact ⟨⟨by omega, x1.2⟩, fun t => ⟨⟨by have := (x2 t).1; omega, (x2 t).1.2⟩, (x2 t).2⟩⟩
  · rcases hs with hs | hs <;> rcases hs' with hs' | hs'
    · simp only [if_pos (d1 s hs), if_pos (d1 s' hs')]; exact a2 s s' hs hs' hne
    · simp only [if_pos (d1 s hs), if_neg (n2' s' hs')]
      have x := a1 s hs
      have y := e1 s' hs'
      exact ⟨Or.inl (by have := x.1; have := y.1; omega), fun t t' => by have := (x.2 t).1; have := (y.2 t').1; omega⟩
    · simp only [if_neg (n2' s hs), if_pos (d1 s' hs')]
      have x := e1 s hs
      have y := a1 s' hs'
      exact ⟨Or.inr (by have := x.1; have := y.1; omega), fun t t' => by have := (x.2 t).1; have := (y.2 t').1; omega⟩
    · simp only [if_neg (n2' s hs), if_neg (n2' s' hs')]; exact e2 s s' hs hs' hne
  · by_cases z : n < m1
    · obtain ⟨s, s1, s2, s3⟩ := a3 n na z
      exact ⟨s, Or.inl s1, s2, by simp only [if_pos (d1 s s1)]; exact s3⟩
    · obtain ⟨s, s1, s2, s3⟩ := e3 n (by omega) nb
      exact ⟨s, Or.inr s1, s2, by simp only [if_neg (n2' s s1)]; exact s3⟩
theorem LAF.app {V1 V2 : List Nat → Prop} {b1 g1 b2 g2 : List Nat → Nat} {fr1 fr2 : Nat → X} {n0 n1 n2 m0 m1 m2 : Nat} {K1 K2 : Nat → Nat → Nat → Prop} (D : List Nat → Bool)
    (h1 : LAF eb ec e0 ft tv gp S V1 b1 g1 fr1 n0 n1 m0 m1 K1) (h2 : LAF eb ec e0 ft tv gp S V2 b2 g2 fr2 n1 n2 m1 m2 K2) (hiw : ∀ i, inw S i ≤ pbn S i)
    (d1 : ∀ s, V1 s → D s = true) (d2 : ∀ s, V2 s → D s = false) (c1 : ∀ s c q, V1 s → tyl S s = c + 2 → ptc S c q → V1 (s ++ [q])) (c2 : ∀ s c q, V2 s → tyl S s = c + 2 → ptc S c q → V2 (s ++ [q]))
    (hn : n0 ≤ n1 ∧ n1 ≤ n2) (hm : m0 ≤ m1 ∧ m1 ≤ m2) (hf : ∀ x, n0 ≤ x → x < n1 → fr2 x = fr1 x) (hK : ∀ n w i, n < m1 → n0 ≤ w → w + pbn S i ≤ n1 → i ≤ 1 → K1 n w i → K2 n w i) :
    LAF eb ec e0 ft tv gp S (fun s => V1 s ∨ V2 s) (fun s => if D s = true then b1 s else b2 s) (fun s => if D s = true then g1 s else g2 s) fr2 n0 n2 m0 m2 K2 := by
  have n2' : ∀ s, V2 s → ¬ D s = true := fun s hs => by rw [d2 s hs]; decide
  refine ⟨h1.1.app D h2.1 d1 d2 hn hm hK, fun s hs c t => ?_⟩
  rcases hs with hs | hs
  · obtain ⟨x1, x2⟩ := h1.1.1 s hs
    simp only [if_pos (d1 s hs)]
    have ow_ : pbn S (tyl S s) = ow S c := by rw [t]; unfold pbn; rw [if_pos (by omega)]; rfl
    refine (h1.2 s hs c t).cg (fun j j1 j2 => hf _ (by omega) (by omega)) (fun q hq j j1 => ?_) (fun q hq => by rw [if_pos (d1 _ (c1 s c q hs t hq))])
    obtain ⟨k1, -⟩ := h1.1.1 _ (c1 s c q hs t hq)
    rw [tyl_s] at k1
    have := hiw (pty S q)
    exact hf _ (by omega) (by omega)
  · simp only [if_neg (n2' s hs)]
    exact (h2.2 s hs c t).cg (fun _ _ _ => rfl) (fun _ _ _ _ => rfl) (fun q hq => by rw [if_neg (n2' _ (c2 s c q hs t hq))])
/-- the paths within a chip -/
def vin (S : PS) (c : Nat) (s : List Nat) : Prop := s ≠ [] ∧ vpp S (c + 2) s
/-- a part that is a chip: its own path, and those within -/
theorem LAF.chip {q c pb : Nat} {b g : List Nat → Nat} {fr : Nat → X} {n0 n1 m0 m1 : Nat} {K : Nat → Nat → Nat → Prop} (hq : pty S q = c + 2) (h : LAF eb ec e0 ft tv gp S (vin S c) b g fr n0 n1 m0 m1 K) (hc : CHF eb ec e0 ft tv gp S c pb (fun r => b [r]) fr) (hp : pb + ow S c ≤ n0) (hn : n0 ≤ n1) :
    LAF eb ec e0 ft tv gp S (vq S q) (fun s => if s.tail = [] then pb else b s.tail) (fun s => g s.tail) fr pb n1 m0 m1 K := by
  obtain ⟨⟨a1, a2, a3⟩, a4⟩ := h
  have po : pbn S (pty S q) = ow S c := by rw [hq]; unfold pbn; rw [if_pos (by omega)]; rfl
  refine ⟨⟨fun s hs => ?_, fun s s' hs hs' hne => ?_, fun n na nb => ?_⟩, fun s hs c' e => ?_⟩
  · obtain ⟨t, rfl, ht⟩ := hs
    rw [hq] at ht
    by_cases z : t = []
    · subst z
      rw [tyl_1]
      show (pb ≤ pb ∧ pb + pbn S (pty S q) ≤ n1) ∧ _
      exact ⟨⟨Nat.le_refl _, by omega⟩, fun e => by omega⟩
    · rw [tyl_c S q z]
      obtain ⟨x1, x2⟩ := a1 t ⟨z, ht⟩
      show (pb ≤ (if t = [] then pb else b t) ∧ (if t = [] then pb else b t) + pbn S (tyl S t) ≤ n1) ∧ (tyl S t ≤ 1 → (m0 ≤ g t ∧ g t < m1) ∧ K (g t) (if t = [] then pb else b t) (tyl S t))
      rw [if_neg z]
      exact ⟨⟨by omega, x1.2⟩, x2⟩
  · obtain ⟨t, rfl, ht⟩ := hs
    obtain ⟨t', rfl, ht'⟩ := hs'
    rw [hq] at ht ht'
    have ne : t ≠ t' := fun e => hne (by rw [e])
    by_cases z : t = []
    · subst z
      have z' : t' ≠ [] := fun e => ne e.symm
      have y := a1 t' ⟨z', ht'⟩
      rw [tyl_1, tyl_c S q z']
      show (pb + pbn S (pty S q) ≤ (if t' = [] then pb else b t') ∨ _) ∧ _
      rw [if_neg z']
      exact ⟨Or.inl (by have := y.1; omega), fun e => by omega⟩
    · by_cases z' : t' = []
      · subst z'
        have y := a1 t ⟨z, ht⟩
        rw [tyl_1, tyl_c S q z]
        show (_ ∨ pb + pbn S (pty S q) ≤ (if t = [] then pb else b t)) ∧ _
        rw [if_neg z]
        exact ⟨Or.inr (by have := y.1; omega), fun _ e => by omega⟩
      · rw [tyl_c S q z, tyl_c S q z']
        show ((if t = [] then pb else b t) + pbn S (tyl S t) ≤ (if t' = [] then pb else b t') ∨ (if t' = [] then pb else b t') + pbn S (tyl S t') ≤ (if t = [] then pb else b t)) ∧ (tyl S t ≤ 1 → tyl S t' ≤ 1 → g t ≠ g t')
        rw [if_neg z, if_neg z']
        exact a2 t t' ⟨z, ht⟩ ⟨z', ht'⟩ ne
  · obtain ⟨s, s1, s2, s3⟩ := a3 n na nb
    exact ⟨q :: s, ⟨s, rfl, by rw [hq]; exact s1.2⟩, by rw [tyl_c S q s1.1]; exact s2, s3⟩
  · obtain ⟨t, rfl, ht⟩ := hs
    rw [hq] at ht
    by_cases z : t = []
    · subst z
      rw [tyl_1] at e
      have : c' = c := by omega
      subst this
      exact hc
    · rw [tyl_c S q z] at e
      show CHF eb ec e0 ft tv gp S c' (if t = [] then pb else b t) (fun r => if (t ++ [r]) = [] then pb else b (t ++ [r])) fr
      rw [if_neg z]
      exact (a4 t ⟨z, ht⟩ c' e).cg (fun _ _ _ => rfl) (fun _ _ _ _ => rfl) (fun r _ => by rw [if_neg (by simp)])
/-- a part that is a gate -/
theorem LAF.gate {q pb n : Nat} {fr : Nat → X} {n1 : Nat} {K : Nat → Nat → Nat → Prop} (hq : pty S q ≤ 1) (hK : K n pb (pty S q)) (hn : pb + pbn S (pty S q) ≤ n1) : LAF eb ec e0 ft tv gp S (vq S q) (fun _ => pb) (fun _ => n) fr pb n1 n (n + 1) K := by
  have on : ∀ s, vq S q s → s = [q] := fun s hs => by
    obtain ⟨t, rfl, ht⟩ := hs
    rcases t with _ | ⟨a, t⟩
    · rfl
    · have := ht.1; omega
  refine ⟨⟨fun s hs => ?_, fun s s' hs hs' hne => absurd ((on s hs).trans (on s' hs').symm) hne, fun m ma mb => ⟨[q], ⟨[], rfl, trivial⟩, by rw [tyl_1]; exact hq, show n = m by omega⟩⟩, fun s hs c e => ?_⟩
  · rw [on s hs, tyl_1]
    exact ⟨⟨Nat.le_refl _, hn⟩, fun _ => ⟨⟨Nat.le_refl _, Nat.lt_succ_self _⟩, hK⟩⟩
  · rw [on s hs, tyl_1] at e; omega
end LAF_
