/-! The pins of a chip: checkPins -/
theorem q_any_iff (f : Nat → Bool) : ∀ n i x, q_any f n i x = true ↔ x = true ∨ ∃ k, i ≤ k ∧ k < i + n ∧ f k = true
  | 0, i, x => ⟨fun h => Or.inl h, fun h => by rcases h with h | ⟨k, a, b, -⟩; exact h; omega⟩
  | n + 1, i, x => by
    show q_any f n (i + 1) (x || f i) = true ↔ _
    rw [q_any_iff f n (i + 1), Bool.or_eq_true]
    constructor
    · rintro ((h | h) | ⟨k, a, b, d⟩)
      · exact Or.inl h
      · exact Or.inr ⟨i, Nat.le_refl _, by omega, h⟩
      · exact Or.inr ⟨k, by omega, by omega, d⟩
    · rintro (h | ⟨k, a, b, d⟩)
      · exact Or.inl (Or.inl h)
      · by_cases e : k = i
        · exact Or.inl (Or.inr (e ▸ d))
        · exact Or.inr ⟨k, by omega, by omega, d⟩
theorem m_find_self {ft : Nat → Int32} {ta ts f : Nat → Nat} {p : Nat} : ∀ n a, a ≤ p → p < a + n → (m_find ft ta ts f (f p) n a = some p ↔ ¬ ∃ k, a ≤ k ∧ k < p ∧ m_like ft ta ts (f k) (f p) = true)
  | 0, a, h1, h2 => by omega
  | n + 1, a, h1, h2 => by
    show (if m_like ft ta ts (f a) (f p) = true then some a else m_find ft ta ts f (f p) n (a + 1)) = some p ↔ _
    by_cases e : a = p
    · subst e
      rw [if_pos (m_like_rf ft ta ts _)]
      exact ⟨fun _ ⟨k, x, y, _⟩ => by omega, fun _ => rfl⟩
    · by_cases q : m_like ft ta ts (f a) (f p) = true
      · rw [if_pos q]
        exact ⟨fun h => absurd (Option.some.inj h) e, fun h => absurd ⟨a, Nat.le_refl _, by omega, q⟩ h⟩
      · rw [if_neg q, m_find_self n (a + 1) (by omega) (by omega)]
        constructor
        · rintro h ⟨k, x, y, z⟩
          by_cases e2 : k = a
          · exact q (e2 ▸ z)
          · exact h ⟨k, by omega, y, z⟩
        · rintro h ⟨k, x, y, z⟩
          exact h ⟨k, by omega, y, z⟩
/-- a fault's token as its place -/
def fpt (pp : Nat → Nat) (o : Option (Nat × Nat)) : Option (Nat × Option Nat) := o.map (fun x => (x.1, some (pp x.2)))
def kbd (nv : Nat → Nat) (o : Option Nat) : Option (Nat × Nat) := match o with
  | none => none
  | some z => if nv z < 1 ∨ 16 < nv z then some (5, z) else none
section PNS
variable {t0 qc qna qdf : Nat} {ft tv gw gp : Nat → Int32} {nv : Nat → Nat} {T : Nat} {fk : Nat → Int32} {pp nn : Nat → Nat} {fh fl : Nat → Int64} {G : PG} {ad : Nat → Nat → Nat} {tg : Nat → Nat × Nat} {P : PS} {c p nm : Nat}
theorem k1_f (hR : RF t0 qc qna qdf ft tv fh fl pp nn G ad tg P) (h : KC ft tv gw gp nv T fk pp nn fh fl P) (hc : c < P.1 15) (h1 : P.2.2.1 17 c ≤ p) (h2 : p < P.2.2.1 17 (c + 1)) (hn : isT fh fl pp G nm (P.2.2.1 20 p)) :
    ((rga (ad 5) (P.2.2.1 17 c) (P.2.2.1 17 (c + 1))).find? (fsm G nm) = some (ad 5 p) ↔ ¬ q_any (fun k => m_like ft (P.2.2.1 8) (P.2.2.1 9) (P.2.2.1 20 k) (P.2.2.1 20 p)) (p - P.2.2.1 17 c) (P.2.2.1 17 c) false = true) := by
  have b := h.p17 hc
  have hp : p < P.1 18 := by omega
  have e := pin_cmp (i := c + 2) hR h.1 h.2.2.2.2 h.pn (fun _ => b.2) (h.pn p hp).2 (h.pn p hp).1 hn
  have ex : pxs ad P (c + 2) = rga (ad 5) (P.2.2.1 17 c) (P.2.2.1 17 (c + 1)) := if_pos (by omega)
  have eq : q_pin ft gp P (c + 2) (P.2.2.1 20 p) = m_find ft (P.2.2.1 8) (P.2.2.1 9) (P.2.2.1 20) (P.2.2.1 20 p) (P.2.2.1 17 (c + 1) - P.2.2.1 17 c) (P.2.2.1 17 c) := if_pos (by omega)
  rw [← ex, e, eq]
  have ms := m_find_self (ft := ft) (ta := P.2.2.1 8) (ts := P.2.2.1 9) (f := P.2.2.1 20) (p := p) (P.2.2.1 17 (c + 1) - P.2.2.1 17 c) (P.2.2.1 17 c) h1 (by omega)
  have qa := q_any_iff (fun k => m_like ft (P.2.2.1 8) (P.2.2.1 9) (P.2.2.1 20 k) (P.2.2.1 20 p)) (p - P.2.2.1 17 c) (P.2.2.1 17 c) false
  have qa2 : q_any (fun k => m_like ft (P.2.2.1 8) (P.2.2.1 9) (P.2.2.1 20 k) (P.2.2.1 20 p)) (p - P.2.2.1 17 c) (P.2.2.1 17 c) false = true ↔ ∃ k, P.2.2.1 17 c ≤ k ∧ k < p ∧ m_like ft (P.2.2.1 8) (P.2.2.1 9) (P.2.2.1 20 k) (P.2.2.1 20 p) = true := by
    rw [qa]
    constructor
    · rintro (z | ⟨k, x, y, z⟩)
      · cases z
      · exact ⟨k, x, by omega, z⟩
    · rintro ⟨k, x, y, z⟩
      exact Or.inr ⟨k, x, by omega, z⟩
  rw [qa2, ← ms]
  constructor
  · intro q
    rcases z : m_find ft (P.2.2.1 8) (P.2.2.1 9) (P.2.2.1 20) (P.2.2.1 20 p) (P.2.2.1 17 (c + 1) - P.2.2.1 17 c) (P.2.2.1 17 c) with _ | y
    · rw [z] at q; cases q
    · rw [z] at q
      have by_ := m_find_in _ _ _ z
      have q : some (pad ad (c + 2) y) = some (ad 5 p) := q
      have e5 : pad ad (c + 2) y = ad 5 y := if_pos (by omega)
      rw [e5] at q
      by_cases ey : y = p
      · rw [ey]
      · exact absurd (Option.some.inj q) (hR.1.ne (show y < cno P 5 by show y < P.1 18; omega) (show p < cno P 5 from hp) (by omega))
  · intro q
    rw [q]
    show some (pad ad (c + 2) p) = _
    rw [show pad ad (c + 2) p = ad 5 p from if_pos (by omega)]
theorem k1_pin_e : k1_pin ft nv c p P = if q_any (fun k => m_like ft (P.2.2.1 8) (P.2.2.1 9) (P.2.2.1 20 k) (P.2.2.1 20 p)) (p - P.2.2.1 17 c) (P.2.2.1 17 c) false = true then some (3, P.2.2.1 20 p) else kbd nv (P.2.2.2.1 22 p) := by
  unfold k1_pin kbd
  rcases P.2.2.2.1 22 p with _ | z <;> rfl
theorem k1_bad (h : KC ft tv gw gp nv T fk pp nn fh fl P) (hp : p < P.1 18) : (kbd nv (P.2.2.2.1 22 p)).map (fun x => some (pp x.2)) = ((pwd nn pp (P.2.2.2.1 22 p)).2).map some ∧ ∀ x, (kbd nv (P.2.2.2.1 22 p)) = some x → x.1 = 5 := by
  obtain ⟨-, -, a, -⟩ := h.2.2.1.1.1.pk p hp
  rcases e : P.2.2.2.1 22 p with _ | z
  · exact ⟨rfl, fun x hx => by cases hx⟩
  · have az := a z e
    have l12 := h.l12
    have en : nn z = nv z := by
      rcases (h.1.2.2.2 z (by omega)).2 with r | r | r | r | r | r | r | r
      · omega
      · omega
      · exact r.2.2
      · omega
      · omega
      · have := r.1; omega
      · omega
      · omega
    show (if nv z < 1 ∨ 16 < nv z then some (5, z) else none : Option (Nat × Nat)).map _ = ((if nn z < 1 ∨ 16 < nn z then (1, some (pp z)) else (nn z, none) : Nat × Option Nat).2).map some ∧ ∀ x, (if nv z < 1 ∨ 16 < nv z then some (5, z) else none : Option (Nat × Nat)) = some x → x.1 = 5
    rw [en]
    by_cases q : nv z < 1 ∨ 16 < nv z
    · rw [if_pos q, if_pos q]; exact ⟨rfl, fun x hx => by cases hx; rfl⟩
    · rw [if_neg q, if_neg q]; exact ⟨rfl, fun x hx => by cases hx⟩
/-- one pin: as the class finds it -/
theorem k1_e2 (hR : RF t0 qc qna qdf ft tv fh fl pp nn G ad tg P) (h : KC ft tv gw gp nv T fk pp nn fh fl P) (hc : c < P.1 15) (h1 : P.2.2.1 17 c ≤ p) (h2 : p < P.2.2.1 17 (c + 1)) (hn : isT fh fl pp G nm (P.2.2.1 20 p)) :
    fpt pp (k1_pin ft nv c p P) = if (rga (ad 5) (P.2.2.1 17 c) (P.2.2.1 17 (c + 1))).find? (fsm G nm) = some (ad 5 p) then ((pwd nn pp (P.2.2.2.1 22 p)).2).map (fun z => (5, some z)) else some (3, some (pp (P.2.2.1 20 p))) := by
  have b := h.p17 hc
  have kf := k1_f hR h hc h1 h2 hn
  obtain ⟨b1, b2⟩ := k1_bad (nn := nn) (pp := pp) h (show p < P.1 18 by omega)
  rw [k1_pin_e]
  by_cases q : (rga (ad 5) (P.2.2.1 17 c) (P.2.2.1 17 (c + 1))).find? (fsm G nm) = some (ad 5 p)
  · rw [if_pos q, if_neg (kf.mp q)]
    revert b1 b2
    generalize (kbd nv (P.2.2.2.1 22 p)) = o
    generalize (pwd nn pp (P.2.2.2.1 22 p)).2 = o2
    intro b1 b2
    rcases o with _ | x <;> rcases o2 with _ | y
    · rfl
    · cases b1
    · cases b1
    · cases b1
      have := b2 x rfl
      show some (x.1, some (pp x.2)) = some (5, some (pp x.2))
      rw [this]
  · rw [if_neg q, if_pos (Classical.byContradiction (fun z => q (kf.mpr z)))]; rfl
theorem fpt_none {o : Option (Nat × Nat)} : fpt pp o = none ↔ o = none := by cases o <;> simp [fpt]
theorem k1_pins_u (n p : Nat) : k1_pins ft nv c P (n - p) p = if p < n then (if k1_pin ft nv c p P = none then k1_pins ft nv c P (n - (p + 1)) (p + 1) else k1_pin ft nv c p P) else none := by
  by_cases h : p < n
  · rw [if_pos h, show n - p = (n - (p + 1)) + 1 by omega]; rfl
  · rw [if_neg h, show n - p = 0 by omega]; rfl
end PNS
