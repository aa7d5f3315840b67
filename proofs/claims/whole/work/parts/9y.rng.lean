/-! Rings of chips: the class's masks against the reference's table (row 50) -/
def dm1 (o : Option Nat) (w : Nat) : Nat := if 1 < o.getD 0 then w ||| 2 ^ (o.getD 0 - 2) else w
def dmk (o : Nat → Option Nat) : Nat → Nat → Nat → Nat
  | 0, _, w => w
  | k + 1, q, w => dmk o k (q + 1) (dm1 (o q) w)
theorem dmk_u (o : Nat → Option Nat) (n q w : Nat) : dmk o (n - q) q w = if q < n then dmk o (n - (q + 1)) (q + 1) (dm1 (o q) w) else w := by
  by_cases h : q < n
  · rw [if_pos h, show n - q = (n - (q + 1)) + 1 by omega]; rfl
  · rw [if_neg h, show n - q = 0 by omega]; rfl
def dcs (o : Nat → Option Nat) (a : Nat → Nat) : Nat → Nat → (Nat → Nat) → (Nat → Nat)
  | 0, _, f => f
  | k + 1, c, f => dcs o a k (c + 1) (va_up f c (dmk o (a (c + 1) - a c) (a c) 0))
theorem dcs_u (o : Nat → Option Nat) (a : Nat → Nat) (n c : Nat) (f : Nat → Nat) : dcs o a (n - c) c f = if c < n then dcs o a (n - (c + 1)) (c + 1) (va_up f c (dmk o (a (c + 1) - a c) (a c) 0)) else f := by
  by_cases h : c < n
  · rw [if_pos h, show n - c = (n - (c + 1)) + 1 by omega]; rfl
  · rw [if_neg h, show n - c = 0 by omega]; rfl
def cl1 (y c : Nat) (f : Nat → Nat) : Nat → Nat := if (f c).testBit y = true then va_up f c (f c ||| f y) else f
def clc (y : Nat) : Nat → Nat → (Nat → Nat) → (Nat → Nat)
  | 0, _, f => f
  | k + 1, c, f => clc y k (c + 1) (cl1 y c f)
theorem clc_u (y n c : Nat) (f : Nat → Nat) : clc y (n - c) c f = if c < n then clc y (n - (c + 1)) (c + 1) (cl1 y c f) else f := by
  by_cases h : c < n
  · rw [if_pos h, show n - c = (n - (c + 1)) + 1 by omega]; rfl
  · rw [if_neg h, show n - c = 0 by omega]; rfl
def clb (n : Nat) : Nat → Nat → (Nat → Nat) → (Nat → Nat)
  | 0, _, f => f
  | k + 1, y, f => clb n k (y + 1) (clc y n 0 f)
theorem clb_u (nc n y : Nat) (f : Nat → Nat) : clb nc (n - y) y f = if y < n then clb nc (n - (y + 1)) (y + 1) (clc y nc 0 f) else f := by
  by_cases h : y < n
  · rw [if_pos h, show n - y = (n - (y + 1)) + 1 by omega]; rfl
  · rw [if_neg h, show n - y = 0 by omega]; rfl
def fsc (f : Nat → Nat) : Nat → Nat → Option Nat
  | 0, _ => none
  | k + 1, c => if (f c).testBit c = true then some c else fsc f k (c + 1)
theorem fsc_u (f : Nat → Nat) (n c : Nat) : fsc f (n - c) c = if c < n then (if (f c).testBit c = true then some c else fsc f (n - (c + 1)) (c + 1)) else none := by
  by_cases h : c < n
  · rw [if_pos h, show n - c = (n - (c + 1)) + 1 by omega]; rfl
  · rw [if_neg h, show n - c = 0 by omega]; rfl
/-- all masks are small -/
def sml (f : Nat → Nat) : Prop := ∀ c, f c < 256
theorem dm1_s {o : Option Nat} {w : Nat} (h : w < 256) (ho : ∀ i, o = some i → i < 10) : dm1 o w < 256 := by
  unfold dm1; split
  · refine Nat.or_lt_two_pow (n := 8) h ?_
    rcases o with _ | i
    · decide
    · have := ho i rfl
      exact Nat.pow_lt_pow_right (by decide) (show i - 2 < 8 by omega)
  · exact h
theorem dmk_s {o : Nat → Option Nat} (ho : ∀ q i, o q = some i → i < 10) : ∀ k q w, w < 256 → dmk o k q w < 256
  | 0, _, _, h => h
  | k + 1, q, w, h => dmk_s ho k (q + 1) _ (dm1_s h (ho q))
theorem sml_up {f : Nat → Nat} {c v : Nat} (h : sml f) (hv : v < 256) : sml (va_up f c v) := fun b => by
  by_cases e : b = c
  · rw [e, va_up_self]; exact hv
  · rw [va_up_ne _ _ e]; exact h b
theorem dcs_s {o : Nat → Option Nat} {a : Nat → Nat} (ho : ∀ q i, o q = some i → i < 10) : ∀ k c f, sml f → sml (dcs o a k c f)
  | 0, _, _, h => h
  | k + 1, c, f, h => dcs_s ho k (c + 1) _ (sml_up h (dmk_s ho _ _ _ (by decide)))
theorem cl1_s {y c : Nat} {f : Nat → Nat} (h : sml f) : sml (cl1 y c f) := by
  unfold cl1; split
  · exact sml_up h (Nat.or_lt_two_pow (n := 8) (h c) (h y))
  · exact h
theorem clc_s (y : Nat) : ∀ k c f, sml f → sml (clc y k c f)
  | 0, _, _, h => h
  | k + 1, c, f, h => clc_s y k (c + 1) _ (cl1_s h)
theorem clb_s (n : Nat) : ∀ k y f, sml f → sml (clb n k y f)
  | 0, _, _, h => h
  | k + 1, y, f, h => clb_s n k (y + 1) _ (clc_s y n 0 f h)
theorem dm1_t {o : Option Nat} {w b : Nat} : (dm1 o w).testBit b = (w.testBit b || decide (1 < o.getD 0 ∧ b = o.getD 0 - 2)) := by
  unfold dm1; split
  · rename_i h
    rw [Nat.testBit_or, Nat.testBit_two_pow]
    congr 1
    apply decide_eq_decide.mpr
    constructor
    · intro e; exact ⟨h, e.symm⟩
    · intro e; exact e.2.symm
  · rename_i h
    rw [decide_eq_false (fun e => h e.1), Bool.or_false]
/-- row 50 -/
abbrev rv (S : PS) : Nat → Bool := S.2.2.2.2 50
theorem rv_s {S : PS} {j : Nat} {v : Bool} : rv (abs_ S 50 j v) j = v := abs_s (S := S) (k := 50) (j := j) (w := v)
theorem rv_k {S : PS} {j j' : Nat} {v : Bool} (h : j' ≠ j) : rv (abs_ S 50 j v) j' = rv S j' := abs_k (S := S) (k := 50) (k' := 50) (j := j) (j' := j') (w := v) (fun e => h e.2)
theorem rgp_t {c n : Nat} : ∀ k q (S : PS) w, (∀ p i, S.2.2.2.1 44 p = some i → i < 10) → n ≤ 8 → (∀ b, b < 16 → w.testBit b = rv S (16 * c + b)) → (∀ b, b < 16 → (dmk (S.2.2.2.1 44) k q w).testBit b = rv (rg_p c k q S) (16 * c + b)) ∧ ∀ j, ¬ (16 * c ≤ j ∧ j < 16 * c + 16) → rv (rg_p c k q S) j = rv S j
  | 0, q, S, w, _, _, h => ⟨h, fun _ _ => rfl⟩
  | k + 1, q, S, w, hi, hn, h => by
    have e44 : (rg_1 c q S).2.2.2.1 = S.2.2.2.1 := rk_1.2.2.2.1
    have hz : (S.2.2.2.1 44 q).getD 0 < 10 := by
      rcases e : S.2.2.2.1 44 q with _ | i
      · decide
      · have := hi q i e; show i < 10; omega
    have r := rgp_t (c := c) (n := n) k (q + 1) (rg_1 c q S) (dm1 (S.2.2.2.1 44 q) w) (by rw [e44]; exact hi) hn (fun b hb => by
      rw [dm1_t, h b hb]
      unfold rg_1
      by_cases g : 1 < (S.2.2.2.1 44 q).getD 0
      · rw [if_pos g]
        by_cases e : b = (S.2.2.2.1 44 q).getD 0 - 2
        · rw [decide_eq_true ⟨g, e⟩, Bool.or_true, show 16 * c + b = 16 * c + (S.2.2.2.1 44 q).getD 0 - 2 by omega]; exact rv_s.symm
        · rw [decide_eq_false (fun z => e z.2), Bool.or_false]; exact (rv_k (by omega)).symm
      · rw [if_neg g, decide_eq_false (fun z => g z.1), Bool.or_false])
    rw [e44] at r
    refine ⟨r.1, fun j hj => (r.2 j hj).trans ?_⟩
    unfold rg_1
    split
    · exact rv_k (by omega)
    · rfl
/-- masks and table agree -/
def RM (n : Nat) (f : Nat → Nat) (S : PS) : Prop := ∀ a b, a < n → b < 16 → (f a).testBit b = rv S (16 * a + b)
theorem rgc_t {n : Nat} (hn : n ≤ 8) : ∀ k c (S : PS) f, c + k = n → (∀ p i, S.2.2.2.1 44 p = some i → i < 10) → (∀ a b, a < c → b < 16 → (f a).testBit b = rv S (16 * a + b)) → (∀ a b, c ≤ a → a < n → b < 16 → rv S (16 * a + b) = false) → RM n (dcs (S.2.2.2.1 44) (S.2.2.1 23) k c f) (rg_c k c S)
  | 0, c, S, f, hc, _, h, _ => fun a b ha hb => h a b (by omega) hb
  | k + 1, c, S, f, hc, hi, h, h0 => by
    have r := rgp_t (c := c) (n := n) (S.2.2.1 23 (c + 1) - S.2.2.1 23 c) (S.2.2.1 23 c) S 0 hi hn (fun b hb => by rw [h0 c b (Nat.le_refl _) (by omega) hb]; exact Nat.zero_testBit b)
    have kk := rk_p c (S.2.2.1 23 (c + 1) - S.2.2.1 23 c) (S.2.2.1 23 c) S
    have e := rgc_t hn k (c + 1) (rg_p c (S.2.2.1 23 (c + 1) - S.2.2.1 23 c) (S.2.2.1 23 c) S) (va_up f c (dmk (S.2.2.2.1 44) (S.2.2.1 23 (c + 1) - S.2.2.1 23 c) (S.2.2.1 23 c) 0)) (by omega) (by rw [kk.2.2.2.1]; exact hi) (fun a b ha hb => by
      by_cases z : a = c
      · rw [z, va_up_self]; exact r.1 b hb
      · rw [va_up_ne _ _ z, r.2 _ (by omega)]; exact h a b (by omega) hb) (fun a b ha ha2 hb => by rw [r.2 _ (by omega)]; exact h0 a b (by omega) ha2 hb)
    rw [kk.2.2.2.1, kk.2.2.1] at e
    exact e
theorem rgb_t {k a n : Nat} (hk : k < 16) : ∀ m b (S S0 : PS), b + m = n → n ≤ 16 → (∀ j, j < b → rv S (16 * a + j) = (rv S0 (16 * a + j) || (rv S0 (16 * a + k) && rv S0 (16 * k + j)))) → (∀ j, (∀ z, z < b → j ≠ 16 * a + z) → rv S j = rv S0 j) → (∀ j, j < n → rv (rg_b k a m b S) (16 * a + j) = (rv S0 (16 * a + j) || (rv S0 (16 * a + k) && rv S0 (16 * k + j)))) ∧ ∀ j, (∀ z, z < n → j ≠ 16 * a + z) → rv (rg_b k a m b S) j = rv S0 j
  | 0, b, S, S0, hb, hn, h1, h2 => ⟨fun j hj => h1 j (by omega), fun j hj => h2 j (fun z hz => hj z (by omega))⟩
  | m + 1, b, S, S0, hb, hn, h1, h2 => by
    have e0 : rv S (16 * a + b) = rv S0 (16 * a + b) := h2 _ (fun z hz => by omega)
    have e1 : rv S (16 * a + k) = rv S0 (16 * a + k) := by
      by_cases z : k < b
      · rw [h1 k z]; cases rv S0 (16 * a + k) <;> rfl
      · exact h2 _ (fun z hz => by omega)
    have e2 : rv S (16 * k + b) = rv S0 (16 * k + b) := h2 _ (fun z hz => by omega)
    refine rgb_t hk m (b + 1) (rg_s k a b S) S0 (by omega) hn (fun j hj => ?_) (fun j hj => ?_)
    · unfold rg_s
      by_cases z : j = b
      · rw [z, rv_s]; show (rv S (16 * a + b) || (rv S (16 * a + k) && rv S (16 * k + b))) = _; rw [e0, e1, e2]
      · rw [rv_k (by omega)]; exact h1 j (by omega)
    · unfold rg_s
      rw [rv_k (hj b (by omega))]
      exact h2 j (fun z hz => hj z (by omega))
/-- bits from n on are not set -/
def RMn (n : Nat) (f : Nat → Nat) (S : PS) : Prop := ∀ a b, a < n → b < n → (f a).testBit b = rv S (16 * a + b)
theorem cl1_t {n k a : Nat} {f : Nat → Nat} {S : PS} (hn : n ≤ 8) (hk : k < n) (ha : a < n) (h : RMn n f S) : RMn n (cl1 k a f) (rg_b k a n 0 S) := by
  obtain ⟨r1, r2⟩ := rgb_t (k := k) (a := a) (n := n) (by omega) n 0 S S (by omega) (by omega) (fun j hj => by omega) (fun _ _ => rfl)
  intro c b hc hb
  by_cases e : c = a
  · rw [e, r1 b hb, ← h a b ha hb, ← h a k ha hk, ← h k b hk hb]
    unfold cl1
    by_cases t : (f a).testBit k = true
    · rw [if_pos t, va_up_self, Nat.testBit_or, t, Bool.true_and]
    · rw [if_neg t, Bool.eq_false_iff.mpr t, Bool.false_and, Bool.or_false]
  · rw [r2 _ (fun z hz => by omega), ← h c b hc hb]
    unfold cl1
    split
    · rw [va_up_ne _ _ e]
    · rfl
theorem clc_t {n k : Nat} (hn : n ≤ 8) (hk : k < n) : ∀ m a f (S : PS), a + m = n → RMn n f S → RMn n (clc k m a f) (rg_a n k m a S)
  | 0, _, _, _, _, h => h
  | m + 1, a, f, S, ha, h => clc_t hn hk m (a + 1) _ _ (by omega) (cl1_t hn hk (by omega) h)
theorem clb_t {n : Nat} (hn : n ≤ 8) : ∀ m k f (S : PS), k + m = n → RMn n f S → RMn n (clb n m k f) (rg_k n m k S)
  | 0, _, _, _, _, h => h
  | m + 1, k, f, S, hk, h => clb_t hn m (k + 1) _ _ (by omega) (clc_t hn (by omega) n 0 f S (by omega) h)
theorem bz_t : ∀ k i (S : PS), (∀ j, j < i → rv S j = false) → ∀ j, j < i + k → rv (bz 50 k i S) j = false
  | 0, i, S, h => fun j hj => h j (by omega)
  | k + 1, i, S, h => fun j hj => bz_t k (i + 1) _ (fun j' hj' => by
      by_cases e : j' = i
      · rw [e]; exact rv_s
      · rw [rv_k e]; exact h j' (by omega)) j (by omega)
/-- the class's masks behind checkRings -/
def rms (S : PS) (f : Nat → Nat) : Nat → Nat := clb (S.1 15) (S.1 15) 0 (dcs (S.2.2.2.1 44) (S.2.2.1 23) (S.1 15) 0 f)
theorem rms_t {S : PS} {f : Nat → Nat} (hn : S.1 15 ≤ 8) (hi : ∀ p i, S.2.2.2.1 44 p = some i → i < 10) : RMn (S.1 15) (rms S f) (rg_k (S.1 15) (S.1 15) 0 (rg_c (S.1 15) 0 (bz 50 256 0 S))) := by
  have kk := rk_bz 256 0 S
  have z := bz_t 256 0 S (fun j hj => by omega)
  have r := rgc_t hn (S.1 15) 0 (bz 50 256 0 S) f (by omega) (by rw [kk.2.2.2.1]; exact hi) (fun a b ha => by omega) (fun a b _ ha hb => z _ (by omega))
  rw [kk.2.2.2.1, kk.2.2.1] at r
  exact clb_t hn _ 0 _ _ (by omega) (fun a b ha hb => r a b ha (by omega))
/-- notes at chips that are parts of themselves: the first one counts -/
theorem rgn_old {n : Nat} : ∀ k c (S : PS), c + k = n → 0 < S.1 5 → (∀ c', c ≤ c' → c' < n → S.1 6 < S.2.2.1 8 (S.2.2.1 16 c')) → rg_n k c S = S
  | 0, _, _, _, _, _ => rfl
  | k + 1, c, S, hc, h5, h6 => by
    have e : rg_m c S = S := by
      unfold rg_m; split
      · exact nt_old h5 (Or.inl (h6 c (Nat.le_refl _) (by omega)))
      · rfl
    show rg_n k (c + 1) (rg_m c S) = S
    rw [e]; exact rgn_old k (c + 1) S (by omega) h5 (fun c' a b => h6 c' (by omega) b)
theorem rgn_t {n : Nat} {f : Nat → Nat} : ∀ k c (S : PS), c + k = n → RMn n f S → S.1 5 = 0 → (∀ a b, a < b → b < n → S.2.2.1 8 (S.2.2.1 16 a) < S.2.2.1 8 (S.2.2.1 16 b)) → (fsc f k c = none → rg_n k c S = S) ∧ ∀ z, fsc f k c = some z → z < n ∧ (rg_n k c S).1 5 = 6 ∧ (rg_n k c S).1 6 = S.2.2.1 8 (S.2.2.1 16 z)
  | 0, c, S, _, _, _, _ => ⟨fun _ => rfl, fun z h => by cases h⟩
  | k + 1, c, S, hc, hm, h5, ho => by
    have t := hm c c (by omega) (by omega)
    rw [show 16 * c + c = 17 * c by omega] at t
    have hf : fsc f (k + 1) c = if (f c).testBit c = true then some c else fsc f k (c + 1) := rfl
    have hg : rg_n (k + 1) c S = rg_n k (c + 1) (rg_m c S) := rfl
    rw [hf, hg]
    by_cases q : (f c).testBit c = true
    · rw [if_pos q]
      have q2 : S.2.2.2.2 50 (17 * c) = true := t.symm.trans q
      have e : rg_m c S = sp_note 6 (S.2.2.1 16 c) S := by unfold rg_m; rw [if_pos q2]
      obtain ⟨n1, n2⟩ := nt_new (n := 6) (t := S.2.2.1 16 c) (P := S) (Or.inl h5)
      have e2 : (rg_m c S).2 = S.2 := by rw [e]; exact nt_2 _ _ _
      have r := rgn_old (n := n) k (c + 1) (rg_m c S) (by omega) (by rw [e, n1]; decide) (fun c' a b => by rw [e2]; rw [e, n2]; exact ho c c' (by omega) b)
      refine ⟨fun h => (by cases h), fun z hz => ?_⟩
      cases hz
      rw [r, e]
      exact ⟨by omega, n1, n2⟩
    · rw [if_neg q]
      have e : rg_m c S = S := by unfold rg_m; rw [if_neg (fun z => q (t.trans z))]
      rw [e]
      exact rgn_t k (c + 1) S (by omega) hm h5 ho
theorem ring_cmp {S : PS} {f : Nat → Nat} (hn : S.1 15 ≤ 8) (hi : ∀ p i, S.2.2.2.1 44 p = some i → i < 10) (h5 : S.1 5 = 0) (ho : ∀ a b, a < b → b < S.1 15 → S.2.2.1 8 (S.2.2.1 16 a) < S.2.2.1 8 (S.2.2.1 16 b)) :
    (fsc (rms S f) (S.1 15) 0 = none → (rg_all S).1 5 = 0) ∧ ∀ z, fsc (rms S f) (S.1 15) 0 = some z → z < S.1 15 ∧ (rg_all S).1 5 = 6 ∧ (rg_all S).1 6 = S.2.2.1 8 (S.2.2.1 16 z) := by
  have kk := rk_tr (rk_bz 256 0 S) (rk_tr (rk_c (S.1 15) 0 (bz 50 256 0 S)) (rk_k (S.1 15) (S.1 15) 0 (rg_c (S.1 15) 0 (bz 50 256 0 S))))
  have e1 : (rg_k (S.1 15) (S.1 15) 0 (rg_c (S.1 15) 0 (bz 50 256 0 S))).1 5 = 0 := by
    rw [rgk_1, rgc_1, bz_1]; exact h5
  have r := rgn_t (n := S.1 15) (f := rms S f) (S.1 15) 0 _ (by omega) (rms_t (f := f) hn hi) e1 (by rw [kk.2.2.1]; exact ho)
  refine ⟨fun h => ?_, fun z h => ?_⟩
  · unfold rg_all; rw [r.1 h]; exact e1
  · obtain ⟨a, b, d⟩ := r.2 z h
    rw [kk.2.2.1] at d
    exact ⟨a, b, d⟩
