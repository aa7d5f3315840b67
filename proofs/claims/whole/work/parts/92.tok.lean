/-! The tokens of both sides: what the class's parser and the reference's see -/
def tke (ft tv : Nat → Int32) (nv : Nat → Nat) (T : Nat) (A : Nat → Nat → Nat) (fk : Nat → Int32) (pp nn : Nat → Nat) (fh fl : Nat → Int64) : Prop :=
  T ≤ 1000 ∧ (A 7 T = 0 ∨ A 7 T = 6 ∨ A 7 T = 7) ∧ (∀ u, u < T → A 7 u = 1 ∨ A 7 u = 2 ∨ A 7 u = 4 ∨ A 7 u = 5) ∧ ∀ u, u ≤ T → pp u = A 8 u ∧ ((A 7 u = 0 ∧ fk u = nI 0) ∨ (A 7 u = 1 ∧ fk u = nI 3 ∧ wbs ft (A 8 u) (A 9 u) ∧ (1 ≤ A 9 u ∧ A 9 u ≤ 16) ∧ fh u = wh (wd ft (A 8 u) (A 9 u)) ∧ fl u = wt (wd ft (A 8 u) (A 9 u))) ∨ (A 7 u = 2 ∧ fk u = nI 4 ∧ nn u = nv u) ∨ (A 7 u = 4 ∧ tv u = nI 46 ∧ fk u = nI 5) ∨ (A 7 u = 4 ∧ tx_sign (tv u) = true ∧ fk u = tv u) ∨ (A 7 u = 5 ∧ ∃ w, w < 6 ∧ tv u = nI w ∧ fk u = nI (6 + w)) ∨ (A 7 u = 6 ∧ fk u = nI 1) ∨ (A 7 u = 7 ∧ fk u = nI 2))
section TKE
variable {ft tv : Nat → Int32} {nv : Nat → Nat} {T : Nat} {A : Nat → Nat → Nat} {fk : Nat → Int32} {pp nn : Nat → Nat} {fh fl : Nat → Int64} {a : Nat}
theorem tx_sign_n {x : Int32} (h : tx_sign x = true) : ∃ n, x = nI n ∧ 12 ≤ n ∧ n < 128 ∧ n ≠ 46 := by
  unfold tx_sign at h
  simp only [Bool.or_eq_true, decide_eq_true_eq] at h
  rcases h with h | h | h | h | h | h | h | h | h | h <;> exact ⟨_, h, by decide, by decide, by decide⟩
theorem tke.lt (h : tke ft tv nv T A fk pp nn fh fl) (ha : a ≤ T) (hk : A 7 a = 1 ∨ A 7 a = 2 ∨ A 7 a = 4 ∨ A 7 a = 5) : a < 1000 ∧ a + 1 ≤ T := by
  obtain ⟨h1, h2, h3, h4⟩ := h
  by_cases e : a = T
  · rw [e] at hk; omega
  · omega
/-- which kind a token of the class is, by the reference's -/
theorem tke.sg (h : tke ft tv nv T A fk pp nn fh fl) (ha : a ≤ T) {n : Nat} (hn : tx_sign (nI n) = true) (hs : n < 128) : wt_ok fk a (nI n) = (decide (A 7 a = 4) && decide (tv a = nI n)) := by
  obtain ⟨z, hz, z1, z2, z3⟩ := tx_sign_n hn
  have hnz : n = z := (nI_eq (by omega) (by omega)).mp hz
  subst hnz
  have hne : ∀ k, k < 12 → ¬ nI k = nI n := fun k hk e => by have := (nI_eq (by omega) (by omega)).mp e; omega
  have hl := h.lt ha
  rcases (h.2.2.2 a ha).2 with ⟨q, r⟩ | ⟨q, r, -⟩ | ⟨q, r, -⟩ | ⟨q, q2, r⟩ | ⟨q, q2, r⟩ | ⟨q, w, q1, q2, r⟩ | ⟨q, r⟩ | ⟨q, r⟩
  · unfold wt_ok; rw [r, q]; simp [hne 0 (by decide)]
  · unfold wt_ok; rw [r, q]; simp [hne 3 (by decide)]
  · unfold wt_ok; rw [r, q]; simp [hne 4 (by decide)]
  · unfold wt_ok; rw [r, q, q2]
    have : ¬ nI 46 = nI n := fun e => by have := (nI_eq (by omega) (by omega)).mp e; omega
    simp [hne 5 (by decide), this]
  · unfold wt_ok; rw [r, q]; simp [(hl (by omega)).1]
  · unfold wt_ok; rw [r, q]; simp [hne (6 + w) (by omega)]
  · unfold wt_ok; rw [r, q]; simp [hne 1 (by decide)]
  · unfold wt_ok; rw [r, q]; simp [hne 2 (by decide)]
theorem tke.sn (h : tke ft tv nv T A fk pp nn fh fl) (ha : a ≤ T) (hq : A 7 a = 4) (hx : tx_sign (tv a) = true) {k : Nat} (hk : k < 12) : ¬ tv a = nI k := fun e => by
  obtain ⟨z, hz, z1, z2, z3⟩ := tx_sign_n hx
  rw [hz] at e
  have := (nI_eq (by omega) (by omega)).mp e
  omega
theorem tke.kd (h : tke ft tv nv T A fk pp nn fh fl) (ha : a ≤ T) : (fk a = nI 3 ↔ A 7 a = 1) ∧ (fk a = nI 2 ↔ A 7 a = 7) ∧ (fk a = nI 0 ↔ A 7 a = 0) ∧ (fk a = nI 4 ↔ A 7 a = 2) ∧ (fk a = nI 5 ↔ A 7 a = 4 ∧ tv a = nI 46) ∧ ∀ w, w < 6 → (fk a = nI (6 + w) ↔ A 7 a = 5 ∧ tv a = nI w) := by
  have ne : ∀ k j, k < 12 → j < 12 → k ≠ j → ¬ nI k = nI j := fun k j hk hj hn e => hn ((nI_eq (by omega) (by omega)).mp e)
  rcases (h.2.2.2 a ha).2 with ⟨q, r⟩ | ⟨q, r, -⟩ | ⟨q, r, -⟩ | ⟨q, q2, r⟩ | ⟨q, q2, r⟩ | ⟨q, w, q1, q2, r⟩ | ⟨q, r⟩ | ⟨q, r⟩
  · rw [r, q]; exact ⟨by simp [ne 0 3], by simp [ne 0 2], by simp, by simp [ne 0 4], by simp [ne 0 5], fun w hw => by simp [ne 0 (6 + w) (by omega) (by omega) (by omega)]⟩
  · rw [r, q]; exact ⟨by simp, by simp [ne 3 2], by simp [ne 3 0], by simp [ne 3 4], by simp [ne 3 5], fun w hw => by simp [ne 3 (6 + w) (by omega) (by omega) (by omega)]⟩
  · rw [r, q]; exact ⟨by simp [ne 4 3], by simp [ne 4 2], by simp [ne 4 0], by simp, by simp [ne 4 5], fun w hw => by simp [ne 4 (6 + w) (by omega) (by omega) (by omega)]⟩
  · rw [r, q, q2]; exact ⟨by simp [ne 5 3], by simp [ne 5 2], by simp [ne 5 0], by simp [ne 5 4], by simp, fun w hw => by simp [ne 5 (6 + w) (by omega) (by omega) (by omega)]⟩
  · have hk := fun k hk => h.sn ha q q2 (k := k) hk
    have h46 : ¬ tv a = nI 46 := fun e => by
      obtain ⟨z, hz, z1, z2, z3⟩ := tx_sign_n q2
      rw [hz] at e
      have := (nI_eq (by omega) (by omega)).mp e
      omega
    rw [r, q]
    exact ⟨by simp [hk 3], by simp [hk 2], by simp [hk 0], by simp [hk 4], by simp [hk 5, h46], fun w hw => by simp [hk (6 + w) (by omega)]⟩
  · have n6 : ∀ k, k < 6 → ¬ nI (6 + w) = nI k := fun k hk => ne (6 + w) k (by omega) (by omega) (by omega)
    rw [r, q, q2]
    refine ⟨by simp [n6 3], by simp [n6 2], by simp [n6 0], by simp [n6 4], by simp [n6 5], fun v hv => ?_⟩
    constructor
    · intro e
      have := (nI_eq (by omega) (by omega)).mp e
      exact ⟨rfl, by rw [show w = v by omega]⟩
    · intro e
      have := (nI_eq (by omega) (by omega)).mp e.2
      rw [this]
  · rw [r, q]; exact ⟨by simp [ne 1 3], by simp [ne 1 2], by simp [ne 1 0], by simp [ne 1 4], by simp [ne 1 5], fun w hw => by simp [ne 1 (6 + w) (by omega) (by omega) (by omega)]⟩
  · rw [r, q]; exact ⟨by simp [ne 2 3], by simp, by simp [ne 2 0], by simp [ne 2 4], by simp [ne 2 5], fun w hw => by simp [ne 2 (6 + w) (by omega) (by omega) (by omega)]⟩
theorem tke.sw (h : tke ft tv nv T A fk pp nn fh fl) (ha : a ≤ T) {w : Nat} (hw : w < 6) : wt_ok fk a (nI (6 + w)) = (decide (A 7 a = 5) && decide (tv a = nI w)) := by
  have k := (h.kd ha).2.2.2.2.2 w hw
  unfold wt_ok
  by_cases e : A 7 a = 5 ∧ tv a = nI w
  · rw [k.mpr e, e.1, e.2]; simp [(h.lt ha (by omega)).1]
  · have : ¬ fk a = nI (6 + w) := fun q => e (k.mp q)
    simp [this]
    intro q r; exact e ⟨q, r⟩
theorem tke.nm (h : tke ft tv nv T A fk pp nn fh fl) (ha : a ≤ T) : wt_ok fk a (nI 4) = decide (A 7 a = 2) := by
  have k := (h.kd ha).2.2.2.1
  unfold wt_ok
  by_cases e : A 7 a = 2
  · rw [k.mpr e, e]; simp [(h.lt ha (by omega)).1]
  · have : ¬ fk a = nI 4 := fun q => e (k.mp q)
    simp [this, e]
theorem tke.dt (h : tke ft tv nv T A fk pp nn fh fl) (ha : a ≤ T) : wt_ok fk a (nI 5) = (decide (A 7 a = 4) && decide (tv a = nI 46)) := by
  have k := (h.kd ha).2.2.2.2.1
  unfold wt_ok
  by_cases e : A 7 a = 4 ∧ tv a = nI 46
  · rw [k.mpr e, e.1, e.2]; simp [(h.lt ha (by omega)).1]
  · have : ¬ fk a = nI 5 := fun q => e (k.mp q)
    simp [this]
    intro q r; exact e ⟨q, r⟩
theorem tke.wn (h : tke ft tv nv T A fk pp nn fh fl) (ha : a ≤ T) (y : Bool) : wn_ok fk a y = (decide (A 7 a = 1) && y) := by
  have k := (h.kd ha).1
  unfold wn_ok
  by_cases e : A 7 a = 1
  · rw [k.mpr e, e]; simp
  · have : ¬ fk a = nI 3 := fun q => e (k.mp q)
    simp [this, e]
/-- the answer of a step of the parser, and where it stands or the fault -/
def fz (X : PS) (v0 v1 : Value) (r : Bool) (u : Nat × Value × Value) : Prop := (X.1 13 = 0 ∧ r = true ∧ u = (X.1 12, v0, v1)) ∨ (X.1 13 ≠ 0 ∧ r = false ∧ u.2 = (.int (nI (X.1 13)), .int (nI (X.1 14))))
end TKE
section TKP
variable {ft tv : Nat → Int32} {nv : Nat → Nat} {T : Nat} {fk : Nat → Int32} {pp nn : Nat → Nat} {fh fl : Nat → Int64} {P : PS} {v0 v1 : Value}
theorem syn_z (hz : P.1 13 = 0) : (sp_syntax P).1 13 = (if P.2.2.1 7 (P.1 12) = 7 then 2 else 1) ∧ (sp_syntax P).1 14 = P.2.2.1 8 (P.1 12) := by
  unfold sp_syntax sp_wrong
  rw [if_neg (by omega)]
  exact ⟨rfl, rfl⟩
theorem fz_syn (h : tke ft tv nv T P.2.2.1 fk pp nn fh fl) (hz : P.1 13 = 0) (ha : P.1 12 ≤ T) (x : Nat) : fz (sp_syntax P) v0 v1 false (x, .int (if fk (P.1 12) = nI 2 then nI 2 else nI 1), .int (nF pp (P.1 12))) := by
  have s := syn_z hz
  have k := (h.kd ha).2.1
  refine Or.inr ⟨?_, rfl, ?_⟩
  · rw [s.1]; split <;> decide
  · rw [s.1, s.2, ← (h.2.2.2 _ ha).1]
    by_cases e : P.2.2.1 7 (P.1 12) = 7
    · rw [if_pos (k.mpr e), if_pos e]
    · rw [if_neg (fun q => e (k.mp q)), if_neg e]
theorem fz_sign (h : tke ft tv nv T P.2.2.1 fk pp nn fh fl) (hz : P.1 13 = 0) (ha : P.1 12 ≤ T) {n : Nat} (hn : tx_sign (nI n) = true) (hs : n < 128) : fz (sp_sign tv (nI n) P) v0 v1 (wt_ok fk (P.1 12) (nI n)) (wt_to fk (nF pp) (P.1 12) (nI n) v0 v1) ∧ ((sp_sign tv (nI n) P).1 13 = 0 → sg tv (nI n) P = true ∧ sp_sign tv (nI n) P = sp_go P ∧ P.1 12 + 1 ≤ T) := by
  have e := h.sg ha hn hs
  unfold sp_sign
  by_cases q : sg tv (nI n) P = true
  · have q2 : wt_ok fk (P.1 12) (nI n) = true := by rw [e]; exact q
    rw [if_pos q, q2, wt_T q2]
    refine ⟨Or.inl ⟨hz, rfl, ?_⟩, fun _ => ⟨q, rfl, (h.lt ha (by have := sg_k q; omega)).2⟩⟩
    rw [show (sp_go P).1 12 = P.1 12 + 1 from if_pos hz]
  · have q2 : wt_ok fk (P.1 12) (nI n) = false := by rw [e]; exact Bool.eq_false_iff.mpr q
    rw [if_neg q, q2, wt_F q2]
    refine ⟨fz_syn h hz ha _, fun r => ?_⟩
    have s := (syn_z hz).1
    rw [s] at r
    split at r <;> cases r
theorem fz_word (h : tke ft tv nv T P.2.2.1 fk pp nn fh fl) (hz : P.1 13 = 0) (ha : P.1 12 ≤ T) {n : Nat} (hn : n < 6) : fz (sp_word tv (nI n) P) v0 v1 (wt_ok fk (P.1 12) (nI (6 + n))) (wt_to fk (nF pp) (P.1 12) (nI (6 + n)) v0 v1) ∧ ((sp_word tv (nI n) P).1 13 = 0 → sw tv (nI n) P = true ∧ sp_word tv (nI n) P = sp_go P ∧ P.1 12 + 1 ≤ T) := by
  have e := h.sw ha hn
  unfold sp_word
  by_cases q : sw tv (nI n) P = true
  · have q2 : wt_ok fk (P.1 12) (nI (6 + n)) = true := by rw [e]; exact q
    rw [if_pos q, q2, wt_T q2]
    have q3 : P.2.2.1 7 (P.1 12) = 5 := by unfold sw at q; simp at q; exact q.1
    refine ⟨Or.inl ⟨hz, rfl, ?_⟩, fun _ => ⟨q, rfl, (h.lt ha (by omega)).2⟩⟩
    rw [show (sp_go P).1 12 = P.1 12 + 1 from if_pos hz]
  · have q2 : wt_ok fk (P.1 12) (nI (6 + n)) = false := by rw [e]; exact Bool.eq_false_iff.mpr q
    rw [if_neg q, q2, wt_F q2]
    refine ⟨fz_syn h hz ha _, fun r => ?_⟩
    have s := (syn_z hz).1
    rw [s] at r
    split at r <;> cases r
theorem fz_number (h : tke ft tv nv T P.2.2.1 fk pp nn fh fl) (hz : P.1 13 = 0) (ha : P.1 12 ≤ T) : fz (sp_number P) v0 v1 (wt_ok fk (P.1 12) (nI 4)) (wt_to fk (nF pp) (P.1 12) (nI 4) v0 v1) ∧ ((sp_number P).1 13 = 0 → P.2.2.1 7 (P.1 12) = 2 ∧ sp_number P = sp_go P ∧ P.1 12 + 1 ≤ T ∧ nn (P.1 12) = nv (P.1 12)) := by
  have e := h.nm ha
  unfold sp_number
  by_cases q : P.2.2.1 7 (P.1 12) = 2
  · have q2 : wt_ok fk (P.1 12) (nI 4) = true := by rw [e]; simpa using q
    rw [if_pos q, q2, wt_T q2]
    refine ⟨Or.inl ⟨hz, rfl, ?_⟩, fun _ => ⟨q, rfl, (h.lt ha (by omega)).2, ?_⟩⟩
    · rw [show (sp_go P).1 12 = P.1 12 + 1 from if_pos hz]
    · rcases (h.2.2.2 _ ha).2 with r | r | r | r | r | r | r | r
      · omega
      · omega
      · exact r.2.2
      · omega
      · omega
      · have := r.1; omega
      · omega
      · omega
  · have q2 : wt_ok fk (P.1 12) (nI 4) = false := by rw [e]; simpa using q
    rw [if_neg q, q2, wt_F q2]
    refine ⟨fz_syn h hz ha _, fun r => ?_⟩
    have s := (syn_z hz).1
    rw [s] at r
    split at r <;> cases r
/-- a name that is wanted, with or without room for it -/
theorem fz_name (h : tke ft tv nv T P.2.2.1 fk pp nn fh fl) (hz : P.1 13 = 0) (ha : P.1 12 ≤ T) (y : Bool) (hk : ¬ (P.2.2.1 7 (P.1 12) = 1 ∧ y = true)) (x : Nat) : wn_ok fk (P.1 12) y = false ∧ fz (if P.2.2.1 7 (P.1 12) = 1 then sp_wrong 2 (P.1 12) P else sp_syntax P) v0 v1 false (x, (wn_to fk (nF pp) (P.1 12) y v0 v1).1, (wn_to fk (nF pp) (P.1 12) y v0 v1).2) := by
  have e : wn_ok fk (P.1 12) y = false := by
    rw [h.wn ha]
    by_cases q : P.2.2.1 7 (P.1 12) = 1
    · have : y = false := by cases y; rfl; exact absurd ⟨q, rfl⟩ hk
      rw [this]; simp
    · simp [q]
  refine ⟨e, ?_⟩
  rw [wn_F e]
  have k3 := (h.kd ha).1
  have k2 := (h.kd ha).2.1
  by_cases q : P.2.2.1 7 (P.1 12) = 1
  · rw [if_pos q, if_pos (Or.inl (k3.mpr q))]
    refine Or.inr ⟨?_, rfl, ?_⟩
    · unfold sp_wrong; rw [if_neg (by omega)]; show ¬ (2 : Nat) = 0; decide
    · unfold sp_wrong; rw [if_neg (by omega)]; show _ = (Value.int (nI 2), Value.int (nI (P.2.2.1 8 (P.1 12)))); rw [← (h.2.2.2 _ ha).1]
  · rw [if_neg q]
    have := fz_syn (v0 := v0) (v1 := v1) h hz ha x
    by_cases q2 : fk (P.1 12) = nI 2
    · rw [if_pos q2] at this; rw [if_pos (Or.inr q2)]; exact this
    · rw [if_neg q2] at this; rw [if_neg (fun r => by rcases r with r | r; exact q (k3.mp r); exact q2 r)]; exact this
end TKP
/-- once a fault is found, it stays -/
theorem stk_wrong {P : PS} {a t : Nat} (h : ¬ P.1 13 = 0) : sp_wrong a t P = P := by unfold sp_wrong; rw [if_pos (by omega)]
theorem stk_syntax {P : PS} (h : ¬ P.1 13 = 0) : sp_syntax P = P := by unfold sp_syntax; exact stk_wrong h
theorem stk_go {P : PS} (h : ¬ P.1 13 = 0) : (sp_go P).1 13 = P.1 13 ∧ (sp_go P).1 14 = P.1 14 := ⟨rfl, rfl⟩
theorem stk_sign {tv : Nat → Int32} {c : Int32} {P : PS} (h : ¬ P.1 13 = 0) : (sp_sign tv c P).1 13 = P.1 13 ∧ (sp_sign tv c P).1 14 = P.1 14 := by
  unfold sp_sign; split
  · exact stk_go h
  · rw [stk_syntax h]; exact ⟨rfl, rfl⟩
theorem stk_word {tv : Nat → Int32} {c : Int32} {P : PS} (h : ¬ P.1 13 = 0) : (sp_word tv c P).1 13 = P.1 13 ∧ (sp_word tv c P).1 14 = P.1 14 := by
  unfold sp_word; split
  · exact stk_go h
  · rw [stk_syntax h]; exact ⟨rfl, rfl⟩
/-- what a range tells: its place, its two numbers -/
def prt (fk : Nat → Int32) (pp nn : Nat → Nat) (a : Nat) : Option Nat × Nat × Nat := if wt_ok fk a (nI 91) = true then (if wt_ok fk (a + 1 + 1) (nI 5) = true then (some (pp a), nn (a + 1), nn (a + 1 + 1 + 1)) else (some (pp a), nn (a + 1), nn (a + 1))) else (none, 0, 0)
section RNG
variable {ft tv : Nat → Int32} {nv : Nat → Nat} {T : Nat} {fk : Nat → Int32} {pp nn : Nat → Nat} {fh fl : Nat → Int64} {P : PS} {v0 v1 : Value}
theorem fz.t {X : PS} {r : Bool} {u : Nat × Value × Value} (h : fz X v0 v1 r u) (hx : X.1 13 = 0) : r = true ∧ u = (X.1 12, v0, v1) := by
  rcases h with h | h
  · exact h.2
  · exact absurd hx h.1
theorem fz.f {X : PS} {r : Bool} {u : Nat × Value × Value} (h : fz X v0 v1 r u) (hx : ¬ X.1 13 = 0) : r = false ∧ u.2 = (.int (nI (X.1 13)), .int (nI (X.1 14))) := by
  rcases h with h | h
  · exact absurd h.1 hx
  · exact h.2
theorem fz.r {X : PS} {r : Bool} {u : Nat × Value × Value} (h : fz X v0 v1 r u) : r = decide (X.1 13 = 0) := by
  by_cases e : X.1 13 = 0
  · rw [(h.t e).1]; simp [e]
  · rw [(h.f e).1]; simp [e]
theorem fz.x {X X' : PS} {r : Bool} {u : Nat × Value × Value} (h : fz X v0 v1 r u) (hx : ¬ X.1 13 = 0) (e1 : X'.1 13 = X.1 13) (e2 : X'.1 14 = X.1 14) : fz X' v0 v1 r u := by
  have := h.f hx
  refine Or.inr ⟨by rw [e1]; exact hx, this.1, by rw [e1, e2]; exact this.2⟩
theorem go12 (hz : P.1 13 = 0) : (sp_go P).1 12 = P.1 12 + 1 := if_pos hz
theorem prg_cmp (h : tke ft tv nv T P.2.2.1 fk pp nn fh fl) (hz : P.1 13 = 0) (ha : P.1 12 ≤ T) (s : Nat) (G : PG) : fz (sp_range tv nv P) v0 v1 (prg fk pp nn s (P.1 12) v0 v1 G).1 (prg fk pp nn s (P.1 12) v0 v1 G).2.1 ∧ ((sp_range tv nv P).1 13 = 0 → prt fk pp nn (P.1 12) = (((sp_range tv nv P).2.1 41).map pp, (sp_range tv nv P).1 42, (sp_range tv nv P).1 43) ∧ (sp_range tv nv P).1 12 ≤ T) := by
  have s1 := h.sg ha (n := 91) (by decide) (by decide)
  unfold prg sp_range prt
  by_cases q : sg tv (nI 91) P = true
  · have q2 : wt_ok fk (P.1 12) (nI 91) = true := by rw [s1]; exact q
    rw [if_pos q, if_pos q2, if_pos q2]
    have l1 := (h.lt ha (by have := sg_k q; omega)).2
    have d1 : sp_range1 P = sp_number (sp_go (os (sp_range0 P) 41 (some (P.1 12)))) := rfl
    have z1 : (sp_go (os (sp_range0 P) 41 (some (P.1 12)))).1 13 = 0 := hz
    have e1 : (sp_go (os (sp_range0 P) 41 (some (P.1 12)))).1 12 = P.1 12 + 1 := if_pos hz
    have r1 : (sp_go (os (sp_range0 P) 41 (some (P.1 12)))).2.2 = P.2.2 := rfl
    have o1 : (sp_go (os (sp_range0 P) 41 (some (P.1 12)))).2.1 41 = some (P.1 12) := rfl
    generalize sp_go (os (sp_range0 P) 41 (some (P.1 12))) = P1 at d1 z1 e1 r1 o1
    have h1 : tke ft tv nv T P1.2.2.1 fk pp nn fh fl := by rw [r1]; exact h
    have f1 := fz_number (v0 := v0) (v1 := v1) h1 z1 (by omega)
    rw [e1] at f1
    by_cases z2 : (sp_number P1).1 13 = 0
    · obtain ⟨k1, g1, t1, m1⟩ := f1.2 z2
      rw [if_pos (f1.1.t z2).1]
      rw [g1] at d1
      have e2 : (sp_range1 P).1 12 = P.1 12 + 1 + 1 := by rw [d1, go12 z1, e1]
      have z2 : (sp_range1 P).1 13 = 0 := by rw [d1]; exact z1
      have r2 : (sp_range1 P).2.2 = P.2.2 := by rw [d1]; exact r1
      have o2 : (sp_range1 P).2.1 41 = some (P.1 12) := by rw [d1]; exact o1
      have d2 : sp_range2 tv P = if (sp_range1 P).1 13 = 0 ∧ sg tv (nI 46) (sp_range1 P) = true then sp_number (sp_go (sp_range1 P)) else sp_range1 P := rfl
      have d3 : sp_range3 tv P = sp_sign tv (nI 93) (sp_range2 tv P) := rfl
      generalize sp_range1 P = P2 at e2 z2 r2 o2 d2 d1 ⊢
      have h2 : tke ft tv nv T P2.2.2.1 fk pp nn fh fl := by rw [r2]; exact h
      have s2 := h2.dt (a := P2.1 12) (by omega)
      by_cases q3 : sg tv (nI 46) P2 = true
      · have q4 : wt_ok fk (P.1 12 + 1 + 1) (nI 5) = true := by rw [← e2, s2]; exact q3
        rw [if_pos q4, if_pos q4]
        rw [if_pos ⟨z2, q3⟩] at d2
        have l2 := (h2.lt (a := P2.1 12) (by omega) (by have := sg_k q3; omega)).2
        have e3 : (sp_go P2).1 12 = P.1 12 + 1 + 1 + 1 := by rw [go12 z2, e2]
        have f2 := fz_number (P := sp_go P2) (v0 := v0) (v1 := v1) h2 z2 (by omega)
        rw [e3] at f2
        by_cases z3 : (sp_number (sp_go P2)).1 13 = 0
        · obtain ⟨k3, g3, t3, m3⟩ := f2.2 z3
          rw [if_pos (f2.1.t z3).1]
          rw [g3] at d2
          have e4 : (sp_range2 tv P).1 12 = P.1 12 + 1 + 1 + 1 + 1 := by rw [d2, go12 (P := sp_go P2) z2, e3]
          have z4 : (sp_range2 tv P).1 13 = 0 := by rw [d2]; exact z2
          have r4 : (sp_range2 tv P).2 = P2.2 := by rw [d2]; rfl
          generalize sp_range2 tv P = P4 at e4 z4 r4 d3 ⊢
          have h4 : tke ft tv nv T P4.2.2.1 fk pp nn fh fl := by rw [r4, r2]; exact h
          have f4 := fz_sign (v0 := v0) (v1 := v1) h4 z4 (by omega) (n := 93) (by decide) (by decide)
          rw [← d3, e4] at f4
          by_cases z5 : (sp_range3 tv P).1 13 = 0
          · obtain ⟨k5, g5, t5⟩ := f4.2 z5
            rw [if_pos z5]
            have rr := f4.1.t z5
            have e41 : (sp_range3 tv P).2.1 41 = some (P.1 12) := by rw [g5]; show P4.2.1 41 = _; rw [r4]; exact o2
            refine ⟨Or.inl ⟨z5, rr.1, rr.2⟩, fun _ => ⟨?_, ?_⟩⟩
            · show _ = (((sp_range3 tv P).2.1 41).map pp, nv (P2.1 12 - 1), nv (P4.1 12 - 1))
              rw [e41, e2, e4, show P.1 12 + 1 + 1 - 1 = P.1 12 + 1 by omega, show P.1 12 + 1 + 1 + 1 + 1 - 1 = P.1 12 + 1 + 1 + 1 by omega, ← m1, ← m3]; rfl
            · show (sp_range3 tv P).1 12 ≤ T
              rw [g5, go12 z4]; omega
          · rw [if_neg z5]
            exact ⟨f4.1, fun r => absurd r z5⟩
        · rw [if_neg (show ¬ wt_ok fk (P.1 12 + 1 + 1 + 1) (nI 4) = true from by rw [(f2.1.f z3).1]; decide)]
          have z4 : ¬ (sp_range3 tv P).1 13 = 0 := by
            rw [d3, d2]; intro r; exact z3 (f_sign r).1
          rw [if_neg z4]
          refine ⟨?_, fun r => absurd r z4⟩
          refine fz.x (X := sp_number (sp_go P2)) ?_ z3 ?_ ?_
          · exact ⟨f2.1.elim (fun r => absurd r.1 z3) (fun r => r.1), rfl, (f2.1.f z3).2⟩ |> Or.inr
          · rw [d3, d2]; exact (stk_sign z3).1
          · rw [d3, d2]; exact (stk_sign z3).2
      · have q4 : wt_ok fk (P.1 12 + 1 + 1) (nI 5) = false := by rw [← e2, s2]; exact Bool.eq_false_iff.mpr q3
        rw [if_neg (show ¬ wt_ok fk (P.1 12 + 1 + 1) (nI 5) = true from by rw [q4]; decide), if_neg (show ¬ wt_ok fk (P.1 12 + 1 + 1) (nI 5) = true from by rw [q4]; decide)]
        rw [if_neg (fun r => q3 r.2)] at d2
        rw [d2]
        have f4 := fz_sign (v0 := v0) (v1 := v1) h2 z2 (by omega) (n := 93) (by decide) (by decide)
        rw [d2] at d3
        rw [← d3, e2] at f4
        by_cases z5 : (sp_range3 tv P).1 13 = 0
        · obtain ⟨k5, g5, t5⟩ := f4.2 z5
          rw [if_pos z5]
          have rr := f4.1.t z5
          have e41 : (sp_range3 tv P).2.1 41 = some (P.1 12) := by rw [g5]; exact o2
          refine ⟨Or.inl ⟨z5, rr.1, rr.2⟩, fun _ => ⟨?_, ?_⟩⟩
          · show _ = (((sp_range3 tv P).2.1 41).map pp, nv (P2.1 12 - 1), nv (P2.1 12 - 1))
            rw [e41, e2, show P.1 12 + 1 + 1 - 1 = P.1 12 + 1 by omega, ← m1]; rfl
          · show (sp_range3 tv P).1 12 ≤ T
            rw [g5, go12 z2]; omega
        · rw [if_neg z5]
          exact ⟨f4.1, fun r => absurd r z5⟩
    · rw [if_neg (show ¬ wt_ok fk (P.1 12 + 1) (nI 4) = true from by rw [(f1.1.f z2).1]; decide)]
      rw [← d1] at z2
      have d2 : sp_range2 tv P = sp_range1 P := if_neg (fun r => z2 r.1)
      have d3 : sp_range3 tv P = sp_sign tv (nI 93) (sp_range1 P) := by show sp_sign tv (nI 93) (sp_range2 tv P) = _; rw [d2]
      have z4 : ¬ (sp_range3 tv P).1 13 = 0 := by rw [d3]; intro r; exact z2 (f_sign r).1
      rw [if_neg z4]
      refine ⟨?_, fun r => absurd r z4⟩
      rw [← d1] at f1
      refine fz.x (X := sp_range1 P) ?_ z2 ?_ ?_
      · exact Or.inr ⟨z2, rfl, (f1.1.f z2).2⟩
      · rw [d3]; exact (stk_sign z2).1
      · rw [d3]; exact (stk_sign z2).2
  · have q2 : wt_ok fk (P.1 12) (nI 91) = false := by rw [s1]; exact Bool.eq_false_iff.mpr q
    rw [if_neg q, if_neg (show ¬ wt_ok fk (P.1 12) (nI 91) = true from by rw [q2]; decide), if_neg (show ¬ wt_ok fk (P.1 12) (nI 91) = true from by rw [q2]; decide)]
    exact ⟨Or.inl ⟨hz, rfl, rfl⟩, fun _ => ⟨rfl, ha⟩⟩
end RNG
theorem tke.of {ft tv : Nat → Int32} {nv : Nat → Nat} {T : Nat} {A A' : Nat → Nat → Nat} {fk : Nat → Int32} {pp nn : Nat → Nat} {fh fl : Nat → Int64} (h : tke ft tv nv T A fk pp nn fh fl) (e7 : A' 7 = A 7) (e8 : A' 8 = A 8) (e9 : A' 9 = A 9) : tke ft tv nv T A' fk pp nn fh fl := by
  unfold tke at h ⊢; rw [e7, e8, e9]; exact h
section PPN
variable {ft tv : Nat → Int32} {nv : Nat → Nat} {T : Nat} {fk : Nat → Int32} {pp nn : Nat → Nat} {fh fl : Nat → Int64} {P : PS} {v0 v1 : Value}
/-- one pin of the reference's list -/
def pl_p (tv : Nat → Int32) (nv : Nat → Nat) (ob y : Bool) (P : PS) : PS := if P.2.2.1 7 (P.1 12) = 1 then (if y = true then pl_one tv nv ob P else sp_wrong 2 (P.1 12) P) else sp_syntax P
theorem ppn_cmp (h : tke ft tv nv T P.2.2.1 fk pp nn fh fl) (hz : P.1 13 = 0) (ha : P.1 12 ≤ T) (ob y : Bool) : fz (pl_p tv nv ob y P) v0 v1 (ppn fk pp y (P.1 12) v0 v1).1 (ppn fk pp y (P.1 12) v0 v1).2.1 ∧ ((pl_p tv nv ob y P).1 13 = 0 → (P.2.2.1 7 (P.1 12) = 1 ∧ y = true) ∧ (ppn fk pp y (P.1 12) v0 v1).2.2 = (pl_p tv nv ob y P).2.2.2.1 22 (P.1 18) ∧ (pl_p tv nv ob y P).1 12 ≤ T) := by
  by_cases k : P.2.2.1 7 (P.1 12) = 1 ∧ y = true
  · obtain ⟨k1, k2⟩ := k
    have wn : wn_ok fk (P.1 12) y = true := by rw [h.wn ha, k1, k2]; rfl
    have l1 := (h.lt ha (by omega)).2
    unfold ppn pl_p
    rw [if_pos wn, if_pos k1, if_pos k2]
    unfold pl_one
    have e1 : (pl_q1 ob P).1 12 = P.1 12 + 1 := if_pos hz
    have z1 : (pl_q1 ob P).1 13 = 0 := hz
    have h1 : tke ft tv nv T (pl_q1 ob P).2.2.1 fk pp nn fh fl := h.of (pl_q1_a (by decide) (by decide)) (pl_q1_a (by decide) (by decide)) (pl_q1_a (by decide) (by decide))
    have s1 := h1.sg (a := (pl_q1 ob P).1 12) (by omega) (n := 91) (by decide) (by decide)
    have d2 : pl_q2 ob P = sp_number (sp_go (pl_q1 ob P)) := rfl
    have d3 : pl_q3 tv ob P = sp_sign tv (nI 93) (aos (pl_q2 ob P) 22 (P.1 18) (some ((pl_q2 ob P).1 12 - 1))) := rfl
    have d4 : pl_q4 tv nv ob P = ars (pl_q3 tv ob P) 21 ((pl_q3 tv ob P).1 18) (pl_wd (nv ((pl_q2 ob P).1 12 - 1))) := rfl
    have q22 : (pl_q1 ob P).2.2.2.1 22 (P.1 18) = none := by show (if P.1 18 = P.1 18 then none else _) = none; rw [if_pos rfl]
    by_cases q : sg tv (nI 91) (pl_q1 ob P) = true
    · have q2 : wt_ok fk (P.1 12 + 1) (nI 91) = true := by rw [← e1, s1]; exact q
      rw [if_pos q, if_pos q2]
      have l2 := (h1.lt (a := (pl_q1 ob P).1 12) (by omega) (by have := sg_k q; omega)).2
      have e2 : (sp_go (pl_q1 ob P)).1 12 = P.1 12 + 1 + 1 := by rw [go12 z1, e1]
      have f2 := fz_number (P := sp_go (pl_q1 ob P)) (v0 := v0) (v1 := v1) h1 z1 (by omega)
      rw [e2, ← d2] at f2
      by_cases z2 : (pl_q2 ob P).1 13 = 0
      · obtain ⟨k3, g3, t3, m3⟩ := f2.2 z2
        rw [if_pos (f2.1.t z2).1]
        have e3 : (pl_q2 ob P).1 12 = P.1 12 + 1 + 1 + 1 := by rw [g3, go12 (P := sp_go (pl_q1 ob P)) z1, e2]
        have h3 : tke ft tv nv T (aos (pl_q2 ob P) 22 (P.1 18) (some ((pl_q2 ob P).1 12 - 1))).2.2.1 fk pp nn fh fl := by
          show tke ft tv nv T (pl_q2 ob P).2.2.1 fk pp nn fh fl
          rw [g3]; exact h1
        have f3 := fz_sign (v0 := v0) (v1 := v1) h3 z2 (by show (pl_q2 ob P).1 12 ≤ T; omega) (n := 93) (by decide) (by decide)
        rw [← d3, show (aos (pl_q2 ob P) 22 (P.1 18) (some ((pl_q2 ob P).1 12 - 1))).1 12 = P.1 12 + 1 + 1 + 1 from e3] at f3
        by_cases z3 : (pl_q3 tv ob P).1 13 = 0
        · obtain ⟨k5, g5, t5⟩ := f3.2 z3
          rw [if_pos z3]
          have rr := f3.1.t z3
          refine ⟨Or.inl ⟨z3, rr.1, rr.2⟩, fun _ => ⟨⟨k1, k2⟩, ?_, ?_⟩⟩
          · show some (P.1 12 + 1 + 1) = (pl_q3 tv ob P).2.2.2.1 22 (P.1 18)
            rw [g5]
            show _ = (if P.1 18 = P.1 18 then some (P.1 12 + 1 + 1 + 1 - 1) else _)
            rw [if_pos rfl, Nat.add_sub_cancel]
          · show (pl_q3 tv ob P).1 12 ≤ T
            rw [g5]
            show (if (pl_q2 ob P).1 13 = 0 then (pl_q2 ob P).1 12 + 1 else (pl_q2 ob P).1 12) ≤ T
            rw [if_pos z2, e3]; exact t5
        · rw [if_neg z3]
          exact ⟨f3.1, fun r => absurd r z3⟩
      · rw [if_neg (show ¬ wt_ok fk (P.1 12 + 1 + 1) (nI 4) = true from by rw [(f2.1.f z2).1]; decide)]
        have z2' : ¬ (aos (pl_q2 ob P) 22 (P.1 18) (some ((pl_q2 ob P).1 12 - 1))).1 13 = 0 := z2
        have z3 : ¬ (pl_q3 tv ob P).1 13 = 0 := by rw [d3, (stk_sign z2').1]; exact z2
        rw [if_neg z3]
        refine ⟨fz.x (X := pl_q2 ob P) (Or.inr ⟨z2, rfl, (f2.1.f z2).2⟩) z2 ?_ ?_, fun r => absurd r z3⟩
        · rw [d3]; exact (stk_sign z2').1
        · rw [d3]; exact (stk_sign z2').2
    · have q2 : wt_ok fk (P.1 12 + 1) (nI 91) = false := by rw [← e1, s1]; exact Bool.eq_false_iff.mpr q
      rw [if_neg q, if_neg (show ¬ wt_ok fk (P.1 12 + 1) (nI 91) = true from by rw [q2]; decide)]
      refine ⟨Or.inl ⟨z1, rfl, ?_⟩, fun _ => ⟨⟨k1, k2⟩, q22.symm, ?_⟩⟩
      · show _ = ((pl_q1 ob P).1 12, v0, v1); rw [e1]
      · show (pl_q1 ob P).1 12 ≤ T; rw [e1]; exact l1
  · obtain ⟨w0, f0⟩ := fz_name (v0 := v0) (v1 := v1) h hz ha y k (P.1 12)
    have eX : pl_p tv nv ob y P = if P.2.2.1 7 (P.1 12) = 1 then sp_wrong 2 (P.1 12) P else sp_syntax P := by
      unfold pl_p
      by_cases k1 : P.2.2.1 7 (P.1 12) = 1
      · rw [if_pos k1, if_pos k1, if_neg (fun q => k ⟨k1, q⟩)]
      · rw [if_neg k1, if_neg k1]
    have eN : ppn fk pp y (P.1 12) v0 v1 = (false, (P.1 12, (wn_to fk (nF pp) (P.1 12) y v0 v1).1, (wn_to fk (nF pp) (P.1 12) y v0 v1).2), none) := by unfold ppn; rw [if_neg (by rw [w0]; decide)]
    rw [eX, eN]
    exact ⟨f0, fun r => by have := f0.t r; cases this.1⟩
/-- a chip's beginning in the reference -/
def ch_s (tv : Nat → Int32) (P : PS) : PS := if 0 < (ch3 tv P).1 13 then ch3 tv P else sp_sign tv (nI 123) (sp_go (ch4 (ch3 tv P)))
theorem ch4_row {R : PS} {k : Nat} (h : k ≠ 16 ∧ k ≠ 17 ∧ k ≠ 23 ∧ k ≠ 36) : (ch4 R).2.2.1 k = R.2.2.1 k := by
  unfold ch4
  show (if k = 36 then _ else (if k = 23 then _ else (if k = 17 then _ else (if k = 16 then _ else R.2.2.1 k)))) = _
  rw [if_neg h.2.2.2, if_neg h.2.2.1, if_neg h.2.1, if_neg h.1]
theorem sch_cmp (h : tke ft tv nv T P.2.2.1 fk pp nn fh fl) (hz : P.1 13 = 0) (ha : P.1 12 ≤ T) : fz (ch_s tv P) v0 v1 (sch fk pp (decide (P.1 15 < 8)) (P.1 12) v0 v1).1 (sch fk pp (decide (P.1 15 < 8)) (P.1 12) v0 v1).2 ∧ ((ch_s tv P).1 13 = 0 → (ch3 tv P).1 13 = 0 ∧ (ch_s tv P).1 12 = P.1 12 + 1 + 1 + 1 ∧ (ch_s tv P).1 12 ≤ T) := by
  have f1 := fz_word (v0 := v0) (v1 := v1) h hz ha (n := 0) (by decide)
  have d1 : ch1 tv P = sp_word tv (nI 0) P := rfl
  rw [← d1] at f1
  unfold sch ch_s
  by_cases z1 : (ch1 tv P).1 13 = 0
  · obtain ⟨k1, g1, t1⟩ := f1.2 z1
    rw [if_pos (show wt_ok fk (P.1 12) (nI 6) = true from (f1.1.t z1).1)]
    have e1 : (sp_go P).1 12 = P.1 12 + 1 := go12 hz
    have z1' : (sp_go P).1 13 = 0 := hz
    have h1 : tke ft tv nv T (sp_go P).2.2.1 fk pp nn fh fl := h
    have e15 : (sp_go P).1 15 = P.1 15 := rfl
    have d2 : ch2 tv P = if ¬ (sp_go P).2.2.1 7 ((sp_go P).1 12) = 1 then sp_syntax (sp_go P) else sp_go P := by
      unfold ch2; rw [g1]
      by_cases q : (sp_go P).2.2.1 7 ((sp_go P).1 12) = 1
      · rw [if_neg (fun r => r.2 q), if_neg (fun r => r q)]
      · rw [if_pos ⟨z1', q⟩, if_pos q]
    have d3 : ch3 tv P = if (ch2 tv P).1 13 = 0 then sp_room ((ch2 tv P).1 15) 8 ((ch2 tv P).1 12) (ch2 tv P) else ch2 tv P := rfl
    generalize sp_go P = Q at e1 z1' h1 e15 d2
    by_cases k : Q.2.2.1 7 (Q.1 12) = 1 ∧ decide (P.1 15 < 8) = true
    · have k8 : P.1 15 < 8 := of_decide_eq_true k.2
      rw [if_neg (fun r => r k.1)] at d2
      rw [d2, if_pos z1', show sp_room (Q.1 15) 8 (Q.1 12) Q = Q from if_pos (by omega)] at d3
      have wn : wn_ok fk (P.1 12 + 1) (decide (P.1 15 < 8)) = true := by rw [← e1, h1.wn (by omega), k.1, k.2]; rfl
      have l1 := (h1.lt (a := Q.1 12) (by omega) (by omega)).2
      rw [if_pos wn, d3, if_neg (by omega)]
      have z4 : (sp_go (ch4 Q)).1 13 = 0 := z1'
      have e4 : (sp_go (ch4 Q)).1 12 = P.1 12 + 1 + 1 := by rw [go12 (P := ch4 Q) z1', show (ch4 Q).1 12 = Q.1 12 from rfl, e1]
      have h4 : tke ft tv nv T (sp_go (ch4 Q)).2.2.1 fk pp nn fh fl := h1.of (ch4_row (by decide)) (ch4_row (by decide)) (ch4_row (by decide))
      have f4 := fz_sign (v0 := v0) (v1 := v1) h4 z4 (by omega) (n := 123) (by decide) (by decide)
      rw [e4] at f4
      refine ⟨f4.1, fun r => ⟨z1', ?_, ?_⟩⟩
      · rw [(f4.2 r).2.1, go12 z4, e4]
      · rw [(f4.2 r).2.1, go12 z4, e4]; exact (f4.2 r).2.2
    · obtain ⟨w0, f0⟩ := fz_name (v0 := v0) (v1 := v1) h1 z1' (by omega) (decide (P.1 15 < 8)) k (P.1 12 + 1)
      rw [e1] at w0 f0
      rw [if_neg (show ¬ wn_ok fk (P.1 12 + 1) (decide (P.1 15 < 8)) = true from by rw [w0]; decide)]
      have eX : ch3 tv P = if Q.2.2.1 7 (P.1 12 + 1) = 1 then sp_wrong 2 (P.1 12 + 1) Q else sp_syntax Q := by
        rw [← e1]
        by_cases k1 : Q.2.2.1 7 (Q.1 12) = 1
        · rw [if_neg (fun r => r k1)] at d2
          have : ¬ P.1 15 < 8 := fun r => k ⟨k1, by simpa using r⟩
          rw [d3, d2, if_pos z1', if_pos k1, show sp_room (Q.1 15) 8 (Q.1 12) Q = sp_wrong 2 (Q.1 12) Q from if_neg (by omega)]
        · rw [if_pos k1] at d2
          rw [d3, d2, if_neg (by rw [(syn_z z1').1]; split <;> decide), if_neg k1]
      rw [← eX] at f0
      have z3 : ¬ (ch3 tv P).1 13 = 0 := fun r => by have := f0.t r; cases this.1
      rw [if_pos (by omega)]
      exact ⟨f0, fun r => absurd r z3⟩
  · rw [if_neg (show ¬ wt_ok fk (P.1 12) (nI 6) = true from by rw [show wt_ok fk (P.1 12) (nI 6) = false from (f1.1.f z1).1]; decide)]
    have d2 : ch2 tv P = ch1 tv P := if_neg (fun r => z1 r.1)
    have d3 : ch3 tv P = ch1 tv P := by unfold ch3; rw [d2, if_neg z1]
    rw [d3, if_pos (by omega)]
    exact ⟨Or.inr ⟨z1, rfl, (f1.1.f z1).2⟩, fun r => absurd r z1⟩
end PPN
/-- the way of parseRange, without the pool -/
def prc (fk : Nat → Int32) (pp : Nat → Nat) (a : Nat) (v0 v1 : Value) : Bool × (Nat × Value × Value) :=
  if wt_ok fk a (nI 91) = true then
    if wt_ok fk (a + 1) (nI 4) = true then
      if wt_ok fk (a + 1 + 1) (nI 5) = true then
        if wt_ok fk (a + 1 + 1 + 1) (nI 4) = true then (wt_ok fk (a + 1 + 1 + 1 + 1) (nI 93), wt_to fk (nF pp) (a + 1 + 1 + 1 + 1) (nI 93) v0 v1)
        else (false, wt_to fk (nF pp) (a + 1 + 1 + 1) (nI 4) v0 v1)
      else (wt_ok fk (a + 1 + 1) (nI 93), wt_to fk (nF pp) (a + 1 + 1) (nI 93) v0 v1)
    else (false, wt_to fk (nF pp) (a + 1) (nI 4) v0 v1)
  else (true, (a, v0, v1))
theorem prg_c {fk : Nat → Int32} {pp nn : Nat → Nat} {s a : Nat} {v0 v1 : Value} {G : PG} : (prg fk pp nn s a v0 v1 G).1 = (prc fk pp a v0 v1).1 ∧ (prg fk pp nn s a v0 v1 G).2.1 = (prc fk pp a v0 v1).2 := by
  unfold prg prc
  split
  · split
    · split
      · split
        · exact ⟨rfl, rfl⟩
        · exact ⟨rfl, rfl⟩
      · exact ⟨rfl, rfl⟩
    · exact ⟨rfl, rfl⟩
  · exact ⟨rfl, rfl⟩
theorem prc_t {fk : Nat → Int32} {pp : Nat → Nat} {a : Nat} {v0 v1 : Value} (h : (prc fk pp a v0 v1).1 = true) : (prc fk pp a v0 v1).2 = ((prc fk pp a v0 v1).2.1, v0, v1) ∧ a ≤ (prc fk pp a v0 v1).2.1 ∧ (a ≤ 1000 → (prc fk pp a v0 v1).2.1 ≤ 1000) := by
  unfold prc at h ⊢
  split
  · rename_i q1; rw [if_pos q1] at h
    split
    · rename_i q2; rw [if_pos q2] at h
      split
      · rename_i q3; rw [if_pos q3] at h
        split
        · rename_i q4; rw [if_pos q4] at h
          have := wt_lt h
          rw [wt_T h]; exact ⟨rfl, by show a ≤ a + 1 + 1 + 1 + 1 + 1; omega, fun _ => by show a + 1 + 1 + 1 + 1 + 1 ≤ 1000; omega⟩
        · rename_i q4; rw [if_neg q4] at h; cases h
      · rename_i q3; rw [if_neg q3] at h
        have := wt_lt h
        rw [wt_T h]; exact ⟨rfl, by show a ≤ a + 1 + 1 + 1; omega, fun _ => by show a + 1 + 1 + 1 ≤ 1000; omega⟩
    · rename_i q2; rw [if_neg q2] at h; cases h
  · exact ⟨rfl, Nat.le_refl _, id⟩
/-- parseRange changes the side alone -/
theorem prg_fr {fk : Nat → Int32} {pp nn : Nat → Nat} {s a : Nat} {v0 v1 : Value} {G : PG} : (prg fk pp nn s a v0 v1 G).2.2.1 = G.1 ∧ (∀ b, b ≠ s → gs G (prg fk pp nn s a v0 v1 G).2.2 b) ∧ ∀ nm co, isS G s nm co none 0 0 → (prg fk pp nn s a v0 v1 G).1 = true → isS (prg fk pp nn s a v0 v1 G).2.2 s nm co (prt fk pp nn a).1 (prt fk pp nn a).2.1 (prt fk pp nn a).2.2 := by
  have set : ∀ (x y z : Nat) (nm : Nat) (co : Option Nat), isS G s nm co none 0 0 → isS (gN (gN (gO G s 2 (some x)) s 3 y) s 4 z) s nm co (some x) y z := fun x y z nm co h => by
    obtain ⟨h1, h2, h3, h4, h5, h6⟩ := h
    refine ⟨h1, h2, ?_, ?_, ?_, ?_⟩
    · show up2 G.2.2.1 s 2 _ s 1 = _; rw [up2_k _ _ _ _ (by decide)]; exact h3
    · exact up2_s _ _ _ _
    · show up2 (up2 G.2.1 s 3 y) s 4 z s 3 = y; rw [up2_k _ _ _ _ (by decide), up2_s]
    · exact up2_s _ _ _ _
  have fr : ∀ (x y z : Nat) (b : Nat), b ≠ s → gs G (gN (gN (gO G s 2 (some x)) s 3 y) s 4 z) b := fun x y z b h => ((gs_O h).tr (gs_N h)).tr (gs_N h)
  unfold prg prt
  split
  · split
    · split
      · split
        · exact ⟨rfl, fr _ _ _, fun nm co h _ => set _ _ _ nm co h⟩
        · exact ⟨rfl, fun b _ => gs.rf G b, fun _ _ _ r => by cases r⟩
      · exact ⟨rfl, fr _ _ _, fun nm co h _ => set _ _ _ nm co h⟩
    · exact ⟨rfl, fun b _ => gs.rf G b, fun _ _ _ r => by cases r⟩
  · exact ⟨rfl, fun b _ => gs.rf G b, fun _ _ h _ => h⟩
/-- the way of parseLink; rm: the name on the right is there, or there is room for it -/
def plk (fk : Nat → Int32) (pp : Nat → Nat) (rm : Bool) (a : Nat) (v0 v1 : Value) : Bool × (Nat × Value × Value) :=
  if wn_ok fk a true = true then
    if (prc fk pp (a + 1) v0 v1).1 = true then
      if wt_ok fk (prc fk pp (a + 1) v0 v1).2.1 (nI 61) = true then
        if fk ((prc fk pp (a + 1) v0 v1).2.1 + 1) = nI 10 ∨ fk ((prc fk pp (a + 1) v0 v1).2.1 + 1) = nI 11 then (true, ((prc fk pp (a + 1) v0 v1).2.1 + 1 + 1, v0, v1))
        else if wn_ok fk ((prc fk pp (a + 1) v0 v1).2.1 + 1) true = true then
          if rm = true then prc fk pp ((prc fk pp (a + 1) v0 v1).2.1 + 1 + 1) v0 v1
          else (false, ((prc fk pp (a + 1) v0 v1).2.1 + 1 + 1, .int (nI 2), .int (nI (pp ((prc fk pp (a + 1) v0 v1).2.1 + 1)))))
        else (false, ((prc fk pp (a + 1) v0 v1).2.1 + 1, (wn_to fk (nF pp) ((prc fk pp (a + 1) v0 v1).2.1 + 1) true v0 v1).1, (wn_to fk (nF pp) ((prc fk pp (a + 1) v0 v1).2.1 + 1) true v0 v1).2))
      else (false, wt_to fk (nF pp) (prc fk pp (a + 1) v0 v1).2.1 (nI 61) v0 v1)
    else (false, (prc fk pp (a + 1) v0 v1).2)
  else (false, (a, (wn_to fk (nF pp) a true v0 v1).1, (wn_to fk (nF pp) a true v0 v1).2))
section LKC
variable {ft tv : Nat → Int32} {nv : Nat → Nat} {T : Nat} {fk : Nat → Int32} {pp nn : Nat → Nat} {fh fl : Nat → Int64} {P : PS} {v0 v1 : Value}
theorem lk_cmp (h : tke ft tv nv T P.2.2.1 fk pp nn fh fl) (hz : P.1 13 = 0) (ha : P.1 12 ≤ T) (rm : Bool) (hrm : (lk5 tv nv P).1 13 = 0 → (lk6 (lk5 tv nv P)).2.2.1 7 ((lk6 (lk5 tv nv P)).1 12) = 1 → rm = decide (¬ (lk_pf ft (lkr (lk6 (lk5 tv nv P))) = none ∧ lk_if ft (lkr (lk6 (lk5 tv nv P))) = none) ∨ (lkr (lk6 (lk5 tv nv P))).1 37 - (lkr (lk6 (lk5 tv nv P))).2.2.1 36 ((lkr (lk6 (lk5 tv nv P))).1 15 - 1) < 30)) :
    fz (sp_link ft tv nv P) v0 v1 (plk fk pp rm (P.1 12) v0 v1).1 (plk fk pp rm (P.1 12) v0 v1).2 ∧ ((sp_link ft tv nv P).1 13 = 0 → (sp_link ft tv nv P).1 12 ≤ T ∧ P.2.2.1 7 (P.1 12) = 1 ∧ (((sp_link ft tv nv P).2.2.2.1 29 (P.1 27)).map pp, (sp_link ft tv nv P).2.2.1 30 (P.1 27), (sp_link ft tv nv P).2.2.1 31 (P.1 27)) = prt fk pp nn (P.1 12 + 1) ∧ (sp_link ft tv nv P).2.2.1 28 (P.1 27) = P.1 12 ∧ (sp_link ft tv nv P).2.2.1 32 (P.1 27) = (prc fk pp (P.1 12 + 1) v0 v1).2.1 + 1 ∧ (prc fk pp (P.1 12 + 1) v0 v1).2.1 + 1 ≤ T ∧ ((P.2.2.1 7 ((prc fk pp (P.1 12 + 1) v0 v1).2.1 + 1) = 5 ∧ (tv ((prc fk pp (P.1 12 + 1) v0 v1).2.1 + 1) = nI 4 ↔ fk ((prc fk pp (P.1 12 + 1) v0 v1).2.1 + 1) = nI 10) ∧ (fk ((prc fk pp (P.1 12 + 1) v0 v1).2.1 + 1) = nI 10 ∨ fk ((prc fk pp (P.1 12 + 1) v0 v1).2.1 + 1) = nI 11) ∧ (sp_link ft tv nv P).2.2.2.1 33 (P.1 27) = none ∧ (sp_link ft tv nv P).1 37 = P.1 37) ∨ (P.2.2.1 7 ((prc fk pp (P.1 12 + 1) v0 v1).2.1 + 1) = 1 ∧ ¬ (fk ((prc fk pp (P.1 12 + 1) v0 v1).2.1 + 1) = nI 10 ∨ fk ((prc fk pp (P.1 12 + 1) v0 v1).2.1 + 1) = nI 11) ∧ rm = true ∧ (((sp_link ft tv nv P).2.2.2.1 33 (P.1 27)).map pp, (sp_link ft tv nv P).2.2.1 34 (P.1 27), (sp_link ft tv nv P).2.2.1 35 (P.1 27)) = prt fk pp nn ((prc fk pp (P.1 12 + 1) v0 v1).2.1 + 1 + 1)))) := by
  unfold plk sp_link
  by_cases k : P.2.2.1 7 (P.1 12) = 1
  · have wn : wn_ok fk (P.1 12) true = true := by rw [h.wn ha, k]; rfl
    have l1 := (h.lt ha (by omega)).2
    have en : sp_name P = sp_go P := if_pos k
    rw [if_pos wn, en, if_neg (show ¬ 0 < (sp_go P).1 13 from by show ¬ 0 < P.1 13; omega)]
    have d2 : lk2 P = ars (sp_go P) 28 (P.1 27) ((sp_go P).1 12 - 1) := by unfold lk2; rw [en]; rfl
    have z2 : (lk2 P).1 13 = 0 := by rw [d2]; exact hz
    have e2 : (lk2 P).1 12 = P.1 12 + 1 := by rw [d2]; exact go12 hz
    have n2 : (lk2 P).1 27 = P.1 27 := by rw [d2]; rfl
    have r2 : ∀ k, k ≠ 28 → (lk2 P).2.2.1 k = P.2.2.1 k := fun k hk => by rw [d2]; show (if k = 28 then _ else P.2.2.1 k) = _; rw [if_neg hk]
    have r28 : (lk2 P).2.2.1 28 (P.1 27) = P.1 12 := by rw [d2]; show (if P.1 27 = P.1 27 then (sp_go P).1 12 - 1 else _) = _; rw [if_pos rfl, go12 hz]; omega
    have h2 : tke ft tv nv T (lk2 P).2.2.1 fk pp nn fh fl := h.of (r2 7 (by decide)) (r2 8 (by decide)) (r2 9 (by decide))
    have f3 := prg_cmp (v0 := v0) (v1 := v1) h2 z2 (by omega) 0 (fun _ => 0, fun _ _ => 0, fun _ _ => none, fun _ _ => false, fun _ _ => 0, fun _ _ => none)
    rw [prg_c.1, prg_c.2, e2] at f3
    have d3 : lk3 tv nv P = sp_range tv nv (lk2 P) := rfl
    rw [← d3] at f3
    have z3k : ∀ k, k ≠ 12 → k ≠ 13 → k ≠ 14 → k ≠ 42 → k ≠ 43 → (lk3 tv nv P).1 k = (lk2 P).1 k := fun k a b c d e => by rw [d3]; exact zk_range a b c d e
    have a3 : (lk3 tv nv P).2.2 = (lk2 P).2.2 := ar_lk3
    have d5 : lk5 tv nv P = sp_sign tv (nI 61) (lk4 (lk3 tv nv P)) := rfl
    by_cases z3 : (lk3 tv nv P).1 13 = 0
    · have t3 := f3.1.t z3
      rw [if_pos t3.1]
      have e3 : (prc fk pp (P.1 12 + 1) v0 v1).2.1 = (lk3 tv nv P).1 12 := by rw [t3.2]
      rw [e3]
      obtain ⟨p3, l3⟩ := f3.2 z3
      have z4 : (lk4 (lk3 tv nv P)).1 13 = 0 := z3
      have e4 : (lk4 (lk3 tv nv P)).1 12 = (lk3 tv nv P).1 12 := rfl
      have r4 : ∀ k, k ≠ 28 → k ≠ 30 → k ≠ 31 → (lk4 (lk3 tv nv P)).2.2.1 k = P.2.2.1 k := fun k a b c => by
        show (if k = 31 then _ else (if k = 30 then _ else (lk3 tv nv P).2.2.1 k)) = _
        rw [if_neg c, if_neg b, a3]; exact r2 k a
      have n3 : (lk3 tv nv P).1 27 = P.1 27 := by rw [z3k 27 (by decide) (by decide) (by decide) (by decide) (by decide), n2]
      have v28 : (lk4 (lk3 tv nv P)).2.2.1 28 (P.1 27) = P.1 12 := by show (lk3 tv nv P).2.2.1 28 (P.1 27) = _; rw [a3]; exact r28
      have v29 : (lk4 (lk3 tv nv P)).2.2.2.1 29 (P.1 27) = (lk3 tv nv P).2.1 41 := by show (if P.1 27 = (lk3 tv nv P).1 27 then _ else _) = _; rw [if_pos n3.symm]
      have v30 : (lk4 (lk3 tv nv P)).2.2.1 30 (P.1 27) = (lk3 tv nv P).1 42 := by show (if P.1 27 = (lk3 tv nv P).1 27 then _ else _) = _; rw [if_pos n3.symm]
      have v31 : (lk4 (lk3 tv nv P)).2.2.1 31 (P.1 27) = (lk3 tv nv P).1 43 := by show (if P.1 27 = (lk3 tv nv P).1 27 then _ else _) = _; rw [if_pos n3.symm]
      have h4 : tke ft tv nv T (lk4 (lk3 tv nv P)).2.2.1 fk pp nn fh fl := h.of (r4 7 (by decide) (by decide) (by decide)) (r4 8 (by decide) (by decide) (by decide)) (r4 9 (by decide) (by decide) (by decide))
      have f5 := fz_sign (v0 := v0) (v1 := v1) h4 z4 (by omega) (n := 61) (by decide) (by decide)
      rw [← d5, e4] at f5
      by_cases z5 : (lk5 tv nv P).1 13 = 0
      · obtain ⟨k5, g5, t5⟩ := f5.2 z5
        rw [if_pos (f5.1.t z5).1, if_neg (show ¬ 0 < (lk5 tv nv P).1 13 by omega)]
        have a5 : (lk5 tv nv P).2 = (lk4 (lk3 tv nv P)).2 := by rw [g5]; rfl
        have e5 : (lk5 tv nv P).1 12 = (lk3 tv nv P).1 12 + 1 := by rw [g5, go12 z4, e4]
        have n5 : (lk5 tv nv P).1 27 = P.1 27 := by rw [g5]; exact n3
        have m5 : (lk5 tv nv P).1 37 = P.1 37 := by rw [g5]; show (lk3 tv nv P).1 37 = _; rw [z3k 37 (by decide) (by decide) (by decide) (by decide) (by decide), d2]; rfl
        have e6 : (lk6 (lk5 tv nv P)).1 12 = (lk3 tv nv P).1 12 + 1 := e5
        have z6 : (lk6 (lk5 tv nv P)).1 13 = 0 := z5
        have n6 : (lk6 (lk5 tv nv P)).1 27 = P.1 27 := n5
        have m6 : (lk6 (lk5 tv nv P)).1 37 = P.1 37 := m5
        have r6 : ∀ k, k ≠ 32 → (lk6 (lk5 tv nv P)).2.2.1 k = (lk4 (lk3 tv nv P)).2.2.1 k := fun k hk => by show (if k = 32 then _ else (lk5 tv nv P).2.2.1 k) = _; rw [if_neg hk, a5]
        have v32 : (lk6 (lk5 tv nv P)).2.2.1 32 (P.1 27) = (lk3 tv nv P).1 12 + 1 := by show (if P.1 27 = (lk5 tv nv P).1 27 then (lk5 tv nv P).1 12 else _) = _; rw [if_pos n5.symm, e5]
        have v33 : (lk6 (lk5 tv nv P)).2.2.2.1 33 (P.1 27) = none := by show (if P.1 27 = (lk5 tv nv P).1 27 then none else _) = _; rw [if_pos n5.symm]
        have o29 : (lk6 (lk5 tv nv P)).2.2.2.1 29 = (lk4 (lk3 tv nv P)).2.2.2.1 29 := by show (lk5 tv nv P).2.2.2.1 29 = _; rw [a5]
        have h6 : tke ft tv nv T (lk6 (lk5 tv nv P)).2.2.1 fk pp nn fh fl := h4.of (r6 7 (by decide)) (r6 8 (by decide)) (r6 9 (by decide))
        have k6 : (lk6 (lk5 tv nv P)).2.2.1 7 = P.2.2.1 7 := by rw [r6 7 (by decide), r4 7 (by decide) (by decide) (by decide)]
        have w28 : (lk6 (lk5 tv nv P)).2.2.1 28 (P.1 27) = P.1 12 := by rw [r6 28 (by decide)]; exact v28
        have wl_ : (((lk6 (lk5 tv nv P)).2.2.2.1 29 (P.1 27)).map pp, (lk6 (lk5 tv nv P)).2.2.1 30 (P.1 27), (lk6 (lk5 tv nv P)).2.2.1 31 (P.1 27)) = prt fk pp nn (P.1 12 + 1) := by rw [o29, r6 30 (by decide), r6 31 (by decide), v29, v30, v31, ← p3]
        generalize hQ : lk6 (lk5 tv nv P) = Q at *
        have kd := h6.kd (a := (lk3 tv nv P).1 12 + 1) (by omega)
        have k10 := kd.2.2.2.2.2 4 (by decide)
        have k11 := kd.2.2.2.2.2 5 (by decide)
        have b4 : sw tv (nI 4) Q = true ↔ fk ((lk3 tv nv P).1 12 + 1) = nI 10 := by rw [show (nI 10 : Int32) = nI (6 + 4) from rfl, k10]; unfold sw; rw [e6]; simp
        have b5 : sw tv (nI 5) Q = true ↔ fk ((lk3 tv nv P).1 12 + 1) = nI 11 := by rw [show (nI 11 : Int32) = nI (6 + 5) from rfl, k11]; unfold sw; rw [e6]; simp
        unfold lk_rt
        by_cases w : sw tv (nI 4) Q = true ∨ sw tv (nI 5) Q = true
        · have w2 : fk ((lk3 tv nv P).1 12 + 1) = nI 10 ∨ fk ((lk3 tv nv P).1 12 + 1) = nI 11 := by rcases w with w | w; exact Or.inl (b4.mp w); exact Or.inr (b5.mp w)
          have q5 : Q.2.2.1 7 ((lk3 tv nv P).1 12 + 1) = 5 := by rcases w2 with r | r; exact (k10.mp r).1; exact (k11.mp r).1
          rw [if_pos w, if_pos w2]
          refine ⟨Or.inl ⟨z6, rfl, ?_⟩, fun _ => ⟨?_, k, wl_, w28, v32, t5, Or.inl ⟨by rw [← k6]; exact q5, ?_, w2, v33, m6⟩⟩⟩
          · show _ = ((sp_go Q).1 12, v0, v1); rw [go12 z6, e6]
          · show (sp_go Q).1 12 ≤ T; rw [go12 z6, e6]; exact (h6.lt (a := (lk3 tv nv P).1 12 + 1) (by omega) (by omega)).2
          · rw [show (nI 10 : Int32) = nI (6 + 4) from rfl, k10]; exact ⟨fun r => ⟨q5, r⟩, fun r => r.2⟩
        · have w2 : ¬ (fk ((lk3 tv nv P).1 12 + 1) = nI 10 ∨ fk ((lk3 tv nv P).1 12 + 1) = nI 11) := fun r => w (by rcases r with r | r; exact Or.inl (b4.mpr r); exact Or.inr (b5.mpr r))
          rw [if_neg w, if_neg w2]
          by_cases kn : Q.2.2.1 7 (Q.1 12) = 1
          · rw [if_pos kn]
            have hrm := hrm z5 kn
            rw [e6] at kn
            have wn2 : wn_ok fk ((lk3 tv nv P).1 12 + 1) true = true := by rw [h6.wn (by omega), kn]; rfl
            have l6 := (h6.lt (a := (lk3 tv nv P).1 12 + 1) (by omega) (by omega)).2
            rw [if_pos wn2]
            have zr : (lkr Q).1 = Q.1 := rfl
            have rr : ∀ k, k ≠ 17 → k ≠ 36 → (lkr Q).2.2.1 k = Q.2.2.1 k := fun k a b => by show (if k = 36 then _ else (if k = 17 then _ else Q.2.2.1 k)) = _; rw [if_neg b, if_neg a]
            have ro : (lkr Q).2.2.2 = Q.2.2.2 := rfl
            generalize hR : lkr Q = R at *
            -- behind the name, with or without a new inner name
            have fin : ∀ Y : PS, (∀ k, k ≠ 37 → Y.1 k = Q.1 k) → (∀ k, k ≠ 17 → k ≠ 36 → k ≠ 38 → Y.2.2.1 k = Q.2.2.1 k) → Y.2.2.2 = Q.2.2.2 → fz (lk_end (lk10 (lk9 tv nv Y))) v0 v1 (prc fk pp ((lk3 tv nv P).1 12 + 1 + 1) v0 v1).1 (prc fk pp ((lk3 tv nv P).1 12 + 1 + 1) v0 v1).2 ∧ ((lk_end (lk10 (lk9 tv nv Y))).1 13 = 0 → (lk_end (lk10 (lk9 tv nv Y))).1 12 ≤ T ∧ P.2.2.1 7 (P.1 12) = 1 ∧ (((lk_end (lk10 (lk9 tv nv Y))).2.2.2.1 29 (P.1 27)).map pp, (lk_end (lk10 (lk9 tv nv Y))).2.2.1 30 (P.1 27), (lk_end (lk10 (lk9 tv nv Y))).2.2.1 31 (P.1 27)) = prt fk pp nn (P.1 12 + 1) ∧ (lk_end (lk10 (lk9 tv nv Y))).2.2.1 28 (P.1 27) = P.1 12 ∧ (lk_end (lk10 (lk9 tv nv Y))).2.2.1 32 (P.1 27) = (lk3 tv nv P).1 12 + 1 ∧ (((lk_end (lk10 (lk9 tv nv Y))).2.2.2.1 33 (P.1 27)).map pp, (lk_end (lk10 (lk9 tv nv Y))).2.2.1 34 (P.1 27), (lk_end (lk10 (lk9 tv nv Y))).2.2.1 35 (P.1 27)) = prt fk pp nn ((lk3 tv nv P).1 12 + 1 + 1)) := by
              intro Y y1 y2 y3
              have zy : Y.1 13 = 0 := by rw [y1 13 (by decide)]; exact z6
              have ey : (sp_go Y).1 12 = (lk3 tv nv P).1 12 + 1 + 1 := by rw [go12 zy, y1 12 (by decide), e6]
              have hy : tke ft tv nv T (sp_go Y).2.2.1 fk pp nn fh fl := h6.of (y2 7 (by decide) (by decide) (by decide)) (y2 8 (by decide) (by decide) (by decide)) (y2 9 (by decide) (by decide) (by decide))
              have fy := prg_cmp (P := sp_go Y) (v0 := v0) (v1 := v1) hy zy (by omega) 0 (fun _ => 0, fun _ _ => 0, fun _ _ => none, fun _ _ => false, fun _ _ => 0, fun _ _ => none)
              rw [prg_c.1, prg_c.2, ey] at fy
              have d9 : lk9 tv nv Y = sp_range tv nv (sp_go Y) := rfl
              rw [← d9] at fy
              have n9 : (lk9 tv nv Y).1 27 = P.1 27 := by rw [d9, zk_range (by decide) (by decide) (by decide) (by decide) (by decide)]; show Y.1 27 = _; rw [y1 27 (by decide), n6]
              have a9 : (lk9 tv nv Y).2.2 = Y.2.2 := by rw [d9, ar_range]; rfl
              have rx : ∀ k, k ≠ 34 → k ≠ 35 → k ≠ 17 → k ≠ 36 → k ≠ 38 → (lk_end (lk10 (lk9 tv nv Y))).2.2.1 k = Q.2.2.1 k := fun k a b c d e => by
                show (if k = 35 then _ else (if k = 34 then _ else (lk9 tv nv Y).2.2.1 k)) = _
                rw [if_neg b, if_neg a, a9]; exact y2 k c d e
              have o9 : (lk_end (lk10 (lk9 tv nv Y))).2.2.2.1 29 = Q.2.2.2.1 29 := by show (lk9 tv nv Y).2.2.2.1 29 = _; rw [a9, y3]
              have x33 : (lk_end (lk10 (lk9 tv nv Y))).2.2.2.1 33 (P.1 27) = (lk9 tv nv Y).2.1 41 := by show (if P.1 27 = (lk9 tv nv Y).1 27 then _ else _) = _; rw [if_pos n9.symm]
              have x34 : (lk_end (lk10 (lk9 tv nv Y))).2.2.1 34 (P.1 27) = (lk9 tv nv Y).1 42 := by show (if P.1 27 = (lk9 tv nv Y).1 27 then _ else _) = _; rw [if_pos n9.symm]
              have x35 : (lk_end (lk10 (lk9 tv nv Y))).2.2.1 35 (P.1 27) = (lk9 tv nv Y).1 43 := by show (if P.1 27 = (lk9 tv nv Y).1 27 then _ else _) = _; rw [if_pos n9.symm]
              refine ⟨?_, fun r => ?_⟩
              · by_cases r : (lk9 tv nv Y).1 13 = 0
                · have := fy.1.t r
                  exact Or.inl ⟨r, this.1, this.2⟩
                · have := fy.1.f r
                  exact Or.inr ⟨r, this.1, this.2⟩
              · have r9 : (lk9 tv nv Y).1 13 = 0 := r
                obtain ⟨p9, l9⟩ := fy.2 r9
                refine ⟨l9, k, ?_, ?_, ?_, ?_⟩
                · rw [o9, rx 30 (by decide) (by decide) (by decide) (by decide) (by decide), rx 31 (by decide) (by decide) (by decide) (by decide) (by decide)]; exact wl_
                · rw [rx 28 (by decide) (by decide) (by decide) (by decide) (by decide)]; exact w28
                · rw [rx 32 (by decide) (by decide) (by decide) (by decide) (by decide)]; exact v32
                · rw [x33, x34, x35, ← p9]
            unfold lk_nm
            by_cases nf : lk_pf ft R = none ∧ lk_if ft R = none
            · rw [if_pos nf]
              by_cases r30 : R.1 37 - R.2.2.1 36 (R.1 15 - 1) < 30
              · have e7 : lk7 R = R := if_pos r30
                have hr : rm = true := by rw [hrm]; exact decide_eq_true (Or.inr r30)
                rw [e7, if_neg (show ¬ 0 < R.1 13 by rw [zr]; omega), if_pos hr]
                have f := fin (lk8 R) (fun k hk => by show (if k = 37 then _ else R.1 k) = _; rw [if_neg hk, zr]) (fun k a b c => by show (if k = 38 then _ else R.2.2.1 k) = _; rw [if_neg c]; exact rr k a b) ro
                refine ⟨f.1, fun r => ?_⟩
                obtain ⟨q1, q2, q3, q4, q5, q6⟩ := f.2 r
                exact ⟨q1, q2, q3, q4, q5, t5, Or.inr ⟨by rw [← k6]; exact kn, w2, hr, q6⟩⟩
              · have e7 : lk7 R = sp_wrong 2 (R.1 12) R := if_neg r30
                have z7 : (lk7 R).1 13 = 2 ∧ (lk7 R).1 14 = R.2.2.1 8 (R.1 12) := by rw [e7]; unfold sp_wrong; rw [if_neg (by rw [zr]; omega)]; exact ⟨rfl, rfl⟩
                have hr : ¬ rm = true := by rw [hrm]; simp only [decide_eq_true_eq]; exact fun q => by rcases q with q | q; exact q nf; exact r30 q
                rw [if_pos (by omega), if_neg hr]
                refine ⟨Or.inr ⟨by omega, rfl, ?_⟩, fun r => by omega⟩
                rw [z7.1, z7.2, zr, e6, rr 8 (by decide) (by decide), ← (h6.2.2.2 _ (by omega)).1]
            · have hr : rm = true := by rw [hrm]; exact decide_eq_true (Or.inl nf)
              rw [if_neg nf, if_pos hr]
              have f := fin R (fun k _ => by rw [zr]) (fun k a b _ => rr k a b) ro
              refine ⟨f.1, fun r => ?_⟩
              obtain ⟨q1, q2, q3, q4, q5, q6⟩ := f.2 r
              exact ⟨q1, q2, q3, q4, q5, t5, Or.inr ⟨by rw [← k6]; exact kn, w2, hr, q6⟩⟩
          · obtain ⟨w0, f0⟩ := fz_name (v0 := v0) (v1 := v1) h6 z6 (by omega) true (fun q => kn q.1) ((lk3 tv nv P).1 12 + 1)
            rw [if_neg kn] at f0 ⊢
            rw [e6] at w0 f0
            rw [if_neg (show ¬ wn_ok fk ((lk3 tv nv P).1 12 + 1) true = true from by rw [w0]; decide)]
            have zs : ¬ (sp_syntax Q).1 13 = 0 := fun r => by have := f0.t r; cases this.1
            exact ⟨f0.x zs rfl rfl, fun r => absurd r zs⟩
      · have := f5.1.f z5
        rw [if_neg (show ¬ wt_ok fk ((lk3 tv nv P).1 12) (nI 61) = true from by rw [this.1]; decide), if_pos (show 0 < (lk5 tv nv P).1 13 by omega)]
        exact ⟨Or.inr ⟨z5, rfl, this.2⟩, fun r => absurd r z5⟩
    · have := f3.1.f z3
      have z4 : ¬ (lk4 (lk3 tv nv P)).1 13 = 0 := z3
      have s5 := stk_sign (tv := tv) (c := nI 61) z4
      rw [← d5] at s5
      have z5 : ¬ (lk5 tv nv P).1 13 = 0 := by rw [s5.1]; exact z3
      rw [if_neg (show ¬ (prc fk pp (P.1 12 + 1) v0 v1).1 = true from by rw [this.1]; decide), if_pos (show 0 < (lk5 tv nv P).1 13 by omega)]
      exact ⟨fz.x (X := lk3 tv nv P) (Or.inr ⟨z3, rfl, this.2⟩) z3 s5.1 s5.2, fun r => absurd r z5⟩
  · have wn : wn_ok fk (P.1 12) true = false := by rw [h.wn ha]; simp [k]
    have en : sp_name P = sp_syntax P := if_neg k
    obtain ⟨w0, f0⟩ := fz_name (v0 := v0) (v1 := v1) h hz ha true (fun q => k q.1) (P.1 12)
    rw [if_neg k] at f0
    have zs : ¬ (sp_syntax P).1 13 = 0 := fun r => by have := f0.t r; cases this.1
    rw [if_neg (show ¬ wn_ok fk (P.1 12) true = true from by rw [wn]; decide), en, if_pos (show 0 < (sp_syntax P).1 13 by omega)]
    exact ⟨f0, fun r => absurd r zs⟩
end LKC
