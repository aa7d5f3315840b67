/-! Rings of chips: the reference's way -/
def bz (a : Nat) : Nat → Nat → PS → PS
  | 0, _, P => P
  | k + 1, i, P => bz a k (i + 1) (abs_ P a i false)
theorem bz_u (a n i : Nat) (P : PS) : bz a (n - i) i P = if i < n then bz a (n - (i + 1)) (i + 1) (abs_ P a i false) else P := by
  by_cases h : i < n
  · rw [if_pos h, show n - i = (n - (i + 1)) + 1 by omega]; rfl
  · rw [if_neg h, show n - i = 0 by omega]; rfl
def rg_1 (c p : Nat) (P : PS) : PS := if 1 < (P.2.2.2.1 44 p).getD 0 then abs_ P 50 (16 * c + (P.2.2.2.1 44 p).getD 0 - 2) true else P
def rg_p (c : Nat) : Nat → Nat → PS → PS
  | 0, _, P => P
  | k + 1, p, P => rg_p c k (p + 1) (rg_1 c p P)
theorem rg_p_u (c n p : Nat) (P : PS) : rg_p c (n - p) p P = if p < n then rg_p c (n - (p + 1)) (p + 1) (rg_1 c p P) else P := by
  by_cases h : p < n
  · rw [if_pos h, show n - p = (n - (p + 1)) + 1 by omega]; rfl
  · rw [if_neg h, show n - p = 0 by omega]; rfl
def rg_c : Nat → Nat → PS → PS
  | 0, _, P => P
  | k + 1, c, P => rg_c k (c + 1) (rg_p c (P.2.2.1 23 (c + 1) - P.2.2.1 23 c) (P.2.2.1 23 c) P)
theorem rg_c_u (n c : Nat) (P : PS) : rg_c (n - c) c P = if c < n then rg_c (n - (c + 1)) (c + 1) (rg_p c (P.2.2.1 23 (c + 1) - P.2.2.1 23 c) (P.2.2.1 23 c) P) else P := by
  by_cases h : c < n
  · rw [if_pos h, show n - c = (n - (c + 1)) + 1 by omega]; rfl
  · rw [if_neg h, show n - c = 0 by omega]; rfl
def rg_s (k a b : Nat) (P : PS) : PS := abs_ P 50 (16 * a + b) (P.2.2.2.2 50 (16 * a + b) || (P.2.2.2.2 50 (16 * a + k) && P.2.2.2.2 50 (16 * k + b)))
def rg_b (k a : Nat) : Nat → Nat → PS → PS
  | 0, _, P => P
  | n + 1, b, P => rg_b k a n (b + 1) (rg_s k a b P)
theorem rg_b_u (k a n b : Nat) (P : PS) : rg_b k a (n - b) b P = if b < n then rg_b k a (n - (b + 1)) (b + 1) (rg_s k a b P) else P := by
  by_cases h : b < n
  · rw [if_pos h, show n - b = (n - (b + 1)) + 1 by omega]; rfl
  · rw [if_neg h, show n - b = 0 by omega]; rfl
def rg_a (nc k : Nat) : Nat → Nat → PS → PS
  | 0, _, P => P
  | n + 1, a, P => rg_a nc k n (a + 1) (rg_b k a nc 0 P)
theorem rg_a_u (nc k n a : Nat) (P : PS) : rg_a nc k (n - a) a P = if a < n then rg_a nc k (n - (a + 1)) (a + 1) (rg_b k a nc 0 P) else P := by
  by_cases h : a < n
  · rw [if_pos h, show n - a = (n - (a + 1)) + 1 by omega]; rfl
  · rw [if_neg h, show n - a = 0 by omega]; rfl
def rg_k (nc : Nat) : Nat → Nat → PS → PS
  | 0, _, P => P
  | n + 1, k, P => rg_k nc n (k + 1) (rg_a nc k nc 0 P)
theorem rg_k_u (nc n k : Nat) (P : PS) : rg_k nc (n - k) k P = if k < n then rg_k nc (n - (k + 1)) (k + 1) (rg_a nc k nc 0 P) else P := by
  by_cases h : k < n
  · rw [if_pos h, show n - k = (n - (k + 1)) + 1 by omega]; rfl
  · rw [if_neg h, show n - k = 0 by omega]; rfl
def rg_m (c : Nat) (P : PS) : PS := if P.2.2.2.2 50 (17 * c) = true then sp_note 6 (P.2.2.1 16 c) P else P
def rg_n : Nat → Nat → PS → PS
  | 0, _, P => P
  | k + 1, c, P => rg_n k (c + 1) (rg_m c P)
theorem rg_n_u (n c : Nat) (P : PS) : rg_n (n - c) c P = if c < n then rg_n (n - (c + 1)) (c + 1) (rg_m c P) else P := by
  by_cases h : c < n
  · rw [if_pos h, show n - c = (n - (c + 1)) + 1 by omega]; rfl
  · rw [if_neg h, show n - c = 0 by omega]; rfl
def rg_all (P : PS) : PS := rg_n (P.1 15) 0 (rg_k (P.1 15) (P.1 15) 0 (rg_c (P.1 15) 0 (bz 50 256 0 P)))
/-- the rings change row 50 of truths, and what was found -/
def rk (P X : PS) : Prop := (∀ k, k ≠ 5 → k ≠ 6 → X.1 k = P.1 k) ∧ X.2.1 = P.2.1 ∧ X.2.2.1 = P.2.2.1 ∧ X.2.2.2.1 = P.2.2.2.1 ∧ ∀ k, k ≠ 50 → X.2.2.2.2 k = P.2.2.2.2 k
theorem rk_rfl (P : PS) : rk P P := ⟨fun _ _ _ => rfl, rfl, rfl, rfl, fun _ _ => rfl⟩
theorem rk_tr {P X Y : PS} (h : rk P X) (g : rk X Y) : rk P Y := ⟨fun k a b => (g.1 k a b).trans (h.1 k a b), g.2.1.trans h.2.1, g.2.2.1.trans h.2.2.1, g.2.2.2.1.trans h.2.2.2.1, fun k a => (g.2.2.2.2 k a).trans (h.2.2.2.2 k a)⟩
theorem rk_abs {P : PS} {i : Nat} {v : Bool} : rk P (abs_ P 50 i v) := by
  refine ⟨fun _ _ _ => rfl, rfl, rfl, rfl, fun k' a => ?_⟩
  show (if k' = 50 then _ else P.2.2.2.2 k') = _
  rw [if_neg a]
theorem rk_nt (n t : Nat) (P : PS) : rk P (sp_note n t P) := ⟨fun k a b => nt_k n t P a b, by rw [nt_2], by rw [nt_2], by rw [nt_2], fun _ _ => by rw [nt_2]⟩
theorem rk_bz : ∀ k i P, rk P (bz 50 k i P)
  | 0, _, P => rk_rfl P
  | k + 1, i, P => rk_tr rk_abs (rk_bz k (i + 1) _)
theorem rk_1 {c p : Nat} {P : PS} : rk P (rg_1 c p P) := by unfold rg_1; split; exact rk_abs; exact rk_rfl P
theorem rk_p (c : Nat) : ∀ k p P, rk P (rg_p c k p P)
  | 0, _, P => rk_rfl P
  | k + 1, p, P => rk_tr rk_1 (rk_p c k (p + 1) _)
theorem rk_c : ∀ k c P, rk P (rg_c k c P)
  | 0, _, P => rk_rfl P
  | k + 1, c, P => rk_tr (rk_p c _ _ P) (rk_c k (c + 1) _)
theorem rk_b (k a : Nat) : ∀ n b P, rk P (rg_b k a n b P)
  | 0, _, P => rk_rfl P
  | n + 1, b, P => rk_tr rk_abs (rk_b k a n (b + 1) _)
theorem rk_a (nc k : Nat) : ∀ n a P, rk P (rg_a nc k n a P)
  | 0, _, P => rk_rfl P
  | n + 1, a, P => rk_tr (rk_b k a nc 0 P) (rk_a nc k n (a + 1) _)
theorem rk_k (nc : Nat) : ∀ n k P, rk P (rg_k nc n k P)
  | 0, _, P => rk_rfl P
  | n + 1, k, P => rk_tr (rk_a nc k nc 0 P) (rk_k nc n (k + 1) _)
theorem rk_m {c : Nat} {P : PS} : rk P (rg_m c P) := by unfold rg_m; split; exact rk_nt _ _ _; exact rk_rfl P
theorem rk_n : ∀ k c P, rk P (rg_n k c P)
  | 0, _, P => rk_rfl P
  | k + 1, c, P => rk_tr rk_m (rk_n k (c + 1) _)
theorem rk_all (P : PS) : rk P (rg_all P) := rk_tr (rk_bz _ _ P) (rk_tr (rk_c _ _ _) (rk_tr (rk_k _ _ _ _) (rk_n _ _ _)))
