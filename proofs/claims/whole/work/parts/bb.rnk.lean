/-! No chip is in itself: a rank of the chips -/
theorem dmk_in {o : Nat → Option Nat} {b : Nat} : ∀ k q w, (w.testBit b = true → (dmk o k q w).testBit b = true) ∧ ∀ q', q ≤ q' → q' < q + k → 1 < (o q').getD 0 → b = (o q').getD 0 - 2 → (dmk o k q w).testBit b = true
  | 0, _, _ => ⟨fun h => h, fun q' a d => by omega⟩
  | k + 1, q, w => by
    obtain ⟨r1, r2⟩ := dmk_in (o := o) (b := b) k (q + 1) (dm1 (o q) w)
    refine ⟨fun h => r1 (by rw [dm1_t, h]; rfl), fun q' a d g e => ?_⟩
    by_cases z : q' = q
    · subst z
      exact r1 (by rw [dm1_t, decide_eq_true ⟨g, e⟩, Bool.or_true])
    · exact r2 q' (by omega) (by omega) g e
theorem dcs_x {o : Nat → Option Nat} {a : Nat → Nat} : ∀ k c f x, dcs o a k c f x = if c ≤ x ∧ x < c + k then dmk o (a (x + 1) - a x) (a x) 0 else f x
  | 0, c, f, x => by rw [if_neg (by omega)]; rfl
  | k + 1, c, f, x => by
    show dcs o a k (c + 1) (va_up f c _) x = _
    rw [dcs_x k (c + 1)]
    by_cases e : x = c
    · rw [if_neg (by omega), if_pos (by omega), e, va_up_self]
    · rw [va_up_ne _ _ e]
      by_cases q : c ≤ x ∧ x < c + (k + 1)
      · rw [if_pos q, if_pos (by omega)]
      · rw [if_neg q, if_neg (by omega)]
theorem clc_x {y : Nat} : ∀ k c f x b, (clc y k c f x).testBit b = if c ≤ x ∧ x < c + k then ((f x).testBit b || ((f x).testBit y && (f y).testBit b)) else (f x).testBit b
  | 0, c, f, x, b => by rw [if_neg (by omega)]; rfl
  | k + 1, c, f, x, b => by
    show (clc y k (c + 1) (cl1 y c f) x).testBit b = _
    have fy : ∀ b, (cl1 y c f y).testBit b = (f y).testBit b := fun b => by
      unfold cl1
      split
      · by_cases e : y = c
        · rw [← e, va_up_self, Nat.or_self]
        · rw [va_up_ne _ _ e]
      · rfl
    have fc : ∀ b, (cl1 y c f c).testBit b = ((f c).testBit b || ((f c).testBit y && (f y).testBit b)) := fun b => by
      unfold cl1
      by_cases t : (f c).testBit y = true
      · rw [if_pos t, va_up_self, Nat.testBit_or, t, Bool.true_and]
      · rw [if_neg t, Bool.eq_false_iff.mpr t, Bool.false_and, Bool.or_false]
    have fx : ∀ x b, x ≠ c → (cl1 y c f x).testBit b = (f x).testBit b := fun x b hx => by
      unfold cl1
      split
      · rw [va_up_ne _ _ hx]
      · rfl
    rw [clc_x k (c + 1), fy]
    by_cases e : x = c
    · rw [if_neg (by omega), if_pos (by omega), e]; exact fc b
    · rw [fx x b e, fx x y e]
      by_cases q : c ≤ x ∧ x < c + (k + 1)
      · rw [if_pos q, if_pos (by omega)]
      · rw [if_neg q, if_neg (by omega)]
/-- closed over the pivots below m -/
def WCL (n m : Nat) (f : Nat → Nat) : Prop := ∀ a k b, a < n → k < m → b < n → (f a).testBit k = true → (f k).testBit b = true → (f a).testBit b = true
theorem clb_x {n : Nat} : ∀ k y f, y + k = n → WCL n y f → WCL n n (clb n k y f) ∧ ∀ a b, (f a).testBit b = true → (clb n k y f a).testBit b = true
  | 0, y, f, hy, h => by
    have : y = n := by omega
    subst this
    exact ⟨h, fun _ _ h => h⟩
  | k + 1, y, f, hy, h => by
    have ex : ∀ x b, x < n → (clc y n 0 f x).testBit b = ((f x).testBit b || ((f x).testBit y && (f y).testBit b)) := fun x b hx => by rw [clc_x, if_pos (by omega)]
    have up : ∀ a b, (f a).testBit b = true → (clc y n 0 f a).testBit b = true := fun a b hab => by
      rw [clc_x]
      split
      · rw [hab]; rfl
      · exact hab
    have w : WCL n (y + 1) (clc y n 0 f) := by
      intro a m b ha hm hb h1 h2
      rw [ex a m ha] at h1
      rw [ex m b (by omega)] at h2
      rw [ex a b ha]
      rw [Bool.or_eq_true, Bool.and_eq_true] at h1 h2 ⊢
      by_cases e : m = y
      · subst e
        have x1 : (f a).testBit m = true := by rcases h1 with z | z; exact z; exact z.1
        have x2 : (f m).testBit b = true := by rcases h2 with z | z; exact z; exact z.2
        exact Or.inr ⟨x1, x2⟩
      · rcases h1 with z | z <;> rcases h2 with w | w
        · exact Or.inl (h a m b ha (by omega) hb z w)
        · exact Or.inr ⟨h a m y ha (by omega) (by omega) z w.1, w.2⟩
        · exact Or.inr ⟨z.1, h y m b (by omega) (by omega) hb z.2 w⟩
        · exact Or.inr ⟨z.1, w.2⟩
    obtain ⟨r1, r2⟩ := clb_x k (y + 1) (clc y n 0 f) (by omega) w
    exact ⟨r1, fun a b hab => r2 a b (up a b hab)⟩
theorem fsc_n {f : Nat → Nat} : ∀ k c, fsc f k c = none → ∀ x, c ≤ x → x < c + k → (f x).testBit x = false
  | 0, c, _ => fun x a d => by omega
  | k + 1, c, h => fun x a d => by
    have h : (if (f c).testBit c = true then some c else fsc f k (c + 1)) = none := h
    by_cases e : (f c).testBit c = true
    · rw [if_pos e] at h; cases h
    · rw [if_neg e] at h
      by_cases z : x = c
      · rw [z]; exact Bool.eq_false_iff.mpr e
      · exact fsc_n k (c + 1) h x (by omega) (by omega)
/-- how many chips are in chip c -/
def rkc (n : Nat) (F : Nat → Nat) (c : Nat) : Nat := cns (fun b => (F c).testBit b) n
theorem rk_ring {S : PS} {f : Nat → Nat} (hn : fsc (rms S f) (S.1 15) 0 = none) {c q : Nat} (hc : c < S.1 15) (hq : ptc S c q) (h1 : 1 < pty S q) (h2 : pty S q - 2 < S.1 15) : rkc (S.1 15) (rms S f) (pty S q - 2) < rkc (S.1 15) (rms S f) c := by
  have dir : (dcs (S.2.2.2.1 44) (S.2.2.1 23) (S.1 15) 0 f c).testBit (pty S q - 2) = true := by
    rw [dcs_x, if_pos (by omega)]
    exact (dmk_in _ _ _).2 q hq.1 (by have := hq.1; have := hq.2; omega) h1 rfl
  obtain ⟨w1, w2⟩ := clb_x (n := S.1 15) (S.1 15) 0 (dcs (S.2.2.2.1 44) (S.2.2.1 23) (S.1 15) 0 f) (by omega) (fun a k b _ hk => by omega)
  have d2 := w2 c (pty S q - 2) dir
  have irr := fsc_n (S.1 15) 0 hn
  have d2 : (rms S f c).testBit (pty S q - 2) = true := d2
  have w1 : WCL (S.1 15) (S.1 15) (rms S f) := w1
  unfold rkc
  -- bits beyond n don't count: compare below n
  have imp := cns_imp (p := fun b => decide (b < S.1 15) && (rms S f (pty S q - 2)).testBit b) (q := fun b => decide (b < S.1 15) && (rms S f c).testBit b) (fun b hb => by
    rw [Bool.and_eq_true] at hb ⊢
    exact ⟨hb.1, w1 c (pty S q - 2) b hc h2 (of_decide_eq_true hb.1) d2 hb.2⟩) (S.1 15)
  have e1 : ∀ x, cns (fun b => (rms S f x).testBit b) (S.1 15) = cns (fun b => decide (b < S.1 15) && (rms S f x).testBit b) (S.1 15) := fun x => cns_eq _ (fun i hi => by rw [decide_eq_true hi, Bool.true_and])
  rw [e1, e1]
  rcases Nat.lt_or_ge (cns (fun b => decide (b < S.1 15) && (rms S f (pty S q - 2)).testBit b) (S.1 15)) (cns (fun b => decide (b < S.1 15) && (rms S f c).testBit b) (S.1 15)) with z | z
  · exact z
  · have := imp.2 (Nat.le_antisymm imp.1 z) (pty S q - 2) h2
    have this : (decide (pty S q - 2 < S.1 15) && (rms S f (pty S q - 2)).testBit (pty S q - 2)) = (decide (pty S q - 2 < S.1 15) && (rms S f c).testBit (pty S q - 2)) := this
    rw [d2, irr (pty S q - 2) (Nat.zero_le _) (by omega), decide_eq_true h2] at this
    cases this
theorem rkc_le (n : Nat) (F : Nat → Nat) (c : Nat) : rkc n F c ≤ n := cns_le _ _
/-- .. and not all of them -/
theorem rkc_lt {n : Nat} {F : Nat → Nat} {c : Nat} (hc : c < n) (h : (F c).testBit c = false) : rkc n F c < n := by
  unfold rkc
  have imp := cns_imp (p := fun b => (F c).testBit b) (q := fun _ => true) (fun _ _ => rfl) n
  rw [cns_t] at imp
  rcases Nat.lt_or_ge (cns (fun b => (F c).testBit b) n) n with z | z
  · exact z
  · have := imp.2 (Nat.le_antisymm imp.1 z) c hc
    have this : (F c).testBit c = true := this
    rw [h] at this; cases this
