/-! The desk's board: where a bit comes from (xI), its signal, the order of the Nands. -/
def xI (v : Nat ⊕ Nat) : Int32 := match v with
  | .inl b => nI b
  | .inr s => nI s ^^^ (-1)
def xF (f : Nat → Nat ⊕ Nat) : Nat → Int32 := fun i => xI (f i)
theorem xn_b (s : Nat) : (nI s ^^^ (-1 : Int32)).toBitVec = ~~~ (BitVec.ofNat 32 s) := by
  show BitVec.ofNat 32 s ^^^ BitVec.allOnes 32 = ~~~ (BitVec.ofNat 32 s)
  rw [BitVec.xor_allOnes]
theorem xn_lt {s : Nat} (h : s < 2 ^ 31) : nI s ^^^ (-1 : Int32) < 0 := by
  rw [Int32.lt_iff_toInt_lt]
  show (nI s ^^^ (-1 : Int32)).toBitVec.toInt < 0
  rw [xn_b, BitVec.toInt_eq_toNat_cond, BitVec.toNat_not, BitVec.toNat_ofNat, Nat.mod_eq_of_lt (by omega)]
  split <;> omega
theorem xn_x (s : Nat) : (nI s ^^^ (-1 : Int32)) ^^^ (-1) = nI s := by
  apply Int32.toBitVec_inj.mp
  show (BitVec.ofNat 32 s ^^^ BitVec.allOnes 32) ^^^ BitVec.allOnes 32 = BitVec.ofNat 32 s
  rw [BitVec.xor_assoc, BitVec.xor_self, BitVec.xor_zero]
def xb (v : Nat ⊕ Nat) : Prop := match v with
  | .inl b => b < 2 ^ 31
  | .inr s => s < 2 ^ 31
theorem xI_lt {v : Nat ⊕ Nat} (h : xb v) : xI v < 0 ↔ ∃ s, v = .inr s := by
  cases v with
  | inl b => exact ⟨fun q => absurd q (nI_pos h), fun ⟨s, q⟩ => by cases q⟩
  | inr s => exact ⟨fun _ => ⟨s, rfl⟩, fun _ => xn_lt h⟩
theorem xI_ge {v : Nat ⊕ Nat} : ¬ (∃ s, v = .inr s) ↔ ∃ b, v = .inl b := by
  cases v with
  | inl b => exact ⟨fun _ => ⟨b, rfl⟩, fun _ ⟨s, q⟩ => by cases q⟩
  | inr s => exact ⟨fun q => absurd ⟨s, rfl⟩ q, fun ⟨b, q⟩ => by cases q⟩
theorem up_x (ta : Nat → Nat ⊕ Nat) (i : Nat) (x : Nat ⊕ Nat) : upd (xF ta) i (xI x) = xF (va_up ta i x) := by
  funext j; unfold upd xF va_up; split <;> rfl
theorem nI_pm {h : Nat} (q : 0 < h) : nI h + (-1) = nI (h - 1) := by
  obtain ⟨k, rfl⟩ : ∃ k, h = k + 1 := ⟨h - 1, by omega⟩
  rw [pk_m1]; rfl
/-- the signal of a bit -/
def sg_w (c : Nat → Nat ⊕ Nat) : Nat → Nat → Nat
  | 0, a => a
  | k + 1, a => match c a with
    | .inl b => sg_w c k b
    | .inr _ => a
theorem sg_r {c : Nat → Nat ⊕ Nat} {a s : Nat} (h : c a = .inr s) : ∀ k, sg_w c k a = a
  | 0 => rfl
  | k + 1 => by show (match c a with | .inl b => sg_w c k b | .inr _ => a) = a; rw [h]
theorem sg_l {c : Nat → Nat ⊕ Nat} {a b : Nat} (h : c a = .inl b) (k : Nat) : sg_w c (k + 1) a = sg_w c k b := by
  show (match c a with | .inl b => sg_w c k b | .inr _ => a) = _; rw [h]
def sgo (c : Nat → Nat ⊕ Nat) (nb a : Nat) : Nat := match c (sg_w c nb a) with
  | .inl _ => 0
  | .inr s => s
theorem sgo_r {c : Nat → Nat ⊕ Nat} {nb a s : Nat} (h : c (sg_w c nb a) = .inr s) : sgo c nb a = s := by unfold sgo; rw [h]
theorem sgo_l {c : Nat → Nat ⊕ Nat} {nb a b : Nat} (h : c (sg_w c nb a) = .inl b) : sgo c nb a = 0 := by unfold sgo; rw [h]
theorem sgo_lt {c : Nat → Nat ⊕ Nat} {n : Nat} (hn : 0 < n) (hs : ∀ i s, c i = .inr s → s < n) (nb a : Nat) : sgo c nb a < n := by
  unfold sgo
  split
  · exact hn
  · rename_i s h; exact hs _ _ h
def fsg (c : Nat → Nat ⊕ Nat) (nb : Nat) : Nat → Nat → (Nat → Nat) × (Nat → Nat) → (Nat → Nat) × (Nat → Nat)
  | 0, _, S => S
  | k + 1, i, S => fsg c nb k (i + 1) (va_up S.1 i (sgo c nb (S.1 i)), va_up S.2 i (sgo c nb (S.2 i)))
theorem fsg_u (c : Nat → Nat ⊕ Nat) (nb n i : Nat) (S : (Nat → Nat) × (Nat → Nat)) : fsg c nb (n - i) i S = if i < n then fsg c nb (n - (i + 1)) (i + 1) (va_up S.1 i (sgo c nb (S.1 i)), va_up S.2 i (sgo c nb (S.2 i))) else S := by
  by_cases h : i < n
  · rw [if_pos h, show n - i = (n - (i + 1)) + 1 by omega]; rfl
  · rw [if_neg h, show n - i = 0 by omega]; rfl
/-! how many of the first n -/
def cns (p : Nat → Bool) : Nat → Nat
  | 0 => 0
  | n + 1 => cns p n + (if p n = true then 1 else 0)
theorem cns_le (p : Nat → Bool) : ∀ n, cns p n ≤ n
  | 0 => Nat.le_refl _
  | n + 1 => by have := cns_le p n; show cns p n + (if p n = true then 1 else 0) ≤ n + 1; split <;> omega
theorem cns_eq {p q : Nat → Bool} : ∀ n, (∀ i, i < n → p i = q i) → cns p n = cns q n
  | 0, _ => rfl
  | n + 1, h => by
    show cns p n + (if p n = true then 1 else 0) = cns q n + (if q n = true then 1 else 0)
    rw [cns_eq n (fun i hi => h i (by omega)), h n (by omega)]
theorem cns_up {p q : Nat → Bool} {j : Nat} (hj : p j = false) (hq : q j = true) (h : ∀ i, i ≠ j → p i = q i) : ∀ n, j < n → cns q n = cns p n + 1
  | 0, hn => absurd hn (by omega)
  | n + 1, hn => by
    show cns q n + (if q n = true then 1 else 0) = cns p n + (if p n = true then 1 else 0) + 1
    by_cases e : j = n
    · subst e
      rw [hj, hq, cns_eq j (fun i hi => (h i (by omega)).symm)]; simp
    · rw [cns_up hj hq h n (by omega), h n (fun q => e q.symm)]; omega
theorem cns_dis {p q : Nat → Bool} (h : ∀ i, ¬ (p i = true ∧ q i = true)) : ∀ n, cns p n + cns q n ≤ n
  | 0 => Nat.le_refl _
  | n + 1 => by
    have := cns_dis h n
    show cns p n + (if p n = true then 1 else 0) + (cns q n + (if q n = true then 1 else 0)) ≤ n + 1
    by_cases a : p n = true <;> by_cases b : q n = true
    · exact absurd ⟨a, b⟩ (h n)
    · rw [if_pos a, if_neg b]; omega
    · rw [if_neg a, if_pos b]; omega
    · rw [if_neg a, if_neg b]; omega
theorem cns_two {p q : Nat → Bool} (h : ∀ i, ¬ (p i = true ∧ q i = true)) {j : Nat} (hp : p j = false) (hq : q j = false) : ∀ n, j < n → cns p n + cns q n < n
  | 0, hn => absurd hn (by omega)
  | n + 1, hn => by
    show cns p n + (if p n = true then 1 else 0) + (cns q n + (if q n = true then 1 else 0)) < n + 1
    by_cases e : j = n
    · subst e
      rw [hp, hq]
      have := cns_dis h j
      simp; omega
    · have := cns_two h hp hq n (by omega)
      have := h n
      by_cases a : p n = true <;> by_cases b : q n = true
      · exact absurd ⟨a, b⟩ (h n)
      · rw [if_pos a, if_neg b]; omega
      · rw [if_neg a, if_pos b]; omega
      · rw [if_neg a, if_neg b]; omega
/-! the order: stack, levels (0: begun, 1: not seen, n + 2: level n), order, how many, deepest -/
abbrev AS := (Nat → Nat) × (Nat → Nat) × (Nat → Nat) × Nat × Nat
def ap (fg x v : Nat) (S : AS) : AS := (S.1, va_up S.2.1 (fg + x) (v + 2), va_up S.2.2.1 S.2.2.2.1 x, S.2.2.2.1 + 1, max S.2.2.2.2 v)
def ar_n (fi si : Nat → Nat) (S : AS) (t : Nat) : Nat := if S.2.1 (fi t) = 1 then fi t else si t
def ar_p (fi si : Nat → Nat) (fg h : Nat) (S : AS) : AS := (va_up S.1 h (ar_n fi si S (S.1 (h - 1)) - fg), va_up S.2.1 (ar_n fi si S (S.1 (h - 1))) 0, S.2.2)
def ar_l (fi si : Nat → Nat) (S : AS) (t : Nat) : Nat := 1 + max (S.2.1 (fi t) - 2) (S.2.1 (si t) - 2)
def ar (fi si : Nat → Nat) (fg : Nat) : Nat → Nat → AS → Bool × AS
  | 0, _, S => (true, S)
  | k + 1, h, S =>
    if h = 0 then (true, S)
    else if S.2.1 (fi (S.1 (h - 1))) = 0 ∨ S.2.1 (si (S.1 (h - 1))) = 0 then (false, S)
    else if S.2.1 (fi (S.1 (h - 1))) = 1 ∨ S.2.1 (si (S.1 (h - 1))) = 1 then ar fi si fg k (h + 1) (ar_p fi si fg h S)
    else ar fi si fg k (h - 1) (ap fg (S.1 (h - 1)) (ar_l fi si S (S.1 (h - 1))) S)
theorem ar_u (fi si : Nat → Nat) (fg n i h : Nat) (S : AS) : ar fi si fg (n - i) h S = if i < n then (if h = 0 then (true, S)
    else if S.2.1 (fi (S.1 (h - 1))) = 0 ∨ S.2.1 (si (S.1 (h - 1))) = 0 then (false, S)
    else if S.2.1 (fi (S.1 (h - 1))) = 1 ∨ S.2.1 (si (S.1 (h - 1))) = 1 then ar fi si fg (n - (i + 1)) (h + 1) (ar_p fi si fg h S)
    else ar fi si fg (n - (i + 1)) (h - 1) (ap fg (S.1 (h - 1)) (ar_l fi si S (S.1 (h - 1))) S)) else (true, S) := by
  by_cases q : i < n
  · rw [if_pos q, show n - i = (n - (i + 1)) + 1 by omega]; rfl
  · rw [if_neg q, show n - i = 0 by omega]; rfl
/-- what holds while the Nands are put in order -/
def AI (fg ng : Nat) (h : Nat) (S : AS) : Prop := (∀ i, i < h → S.1 i < ng ∧ S.2.1 (fg + S.1 i) = 0) ∧ (∀ i j, i < j → j < h → S.1 i ≠ S.1 j) ∧ cns (fun j => decide (S.2.1 (fg + j) = 0)) ng = h ∧ cns (fun j => decide (3 ≤ S.2.1 (fg + j))) ng = S.2.2.2.1 ∧ (∀ j, j < fg → S.2.1 j = 2) ∧ (∀ j, j < fg + ng → S.2.1 j ≤ S.2.2.2.1 + 2) ∧ S.2.2.2.2 ≤ S.2.2.2.1 ∧ (∀ j, j < S.2.2.2.1 → S.2.2.1 j < ng)
theorem AI.le {fg ng h : Nat} {S : AS} (H : AI fg ng h S) : h ≤ ng ∧ S.2.2.2.1 ≤ ng := ⟨by rw [← H.2.2.1]; exact cns_le _ _, by rw [← H.2.2.2.1]; exact cns_le _ _⟩
theorem AI.room {fg ng h x : Nat} {S : AS} (H : AI fg ng h S) (hx : x < fg + ng) (h1 : S.2.1 x = 1) : fg ≤ x ∧ h + S.2.2.2.1 < ng := by
  have hg : fg ≤ x := by
    by_cases q : fg ≤ x
    · exact q
    · have := H.2.2.2.2.1 x (by omega); omega
  refine ⟨hg, ?_⟩
  rw [← H.2.2.1, ← H.2.2.2.1]
  have e : fg + (x - fg) = x := by omega
  exact cns_two (fun i q => by have a := of_decide_eq_true q.1; have b := of_decide_eq_true q.2; omega) (j := x - fg) (by simp only [e, h1]; decide) (by simp only [e, h1]; decide) ng (by omega)
theorem AI.popn {fg ng h : Nat} {S : AS} (H : AI fg ng h S) (hh : 0 < h) : S.2.2.2.1 < ng := by
  obtain ⟨a, b⟩ := H.1 (h - 1) (by omega)
  have := cns_up (p := fun j => decide (3 ≤ S.2.1 (fg + j))) (q := fun j => if j = S.1 (h - 1) then true else decide (3 ≤ S.2.1 (fg + j))) (j := S.1 (h - 1)) (by simp only [b]; decide) (by simp) (fun i hi => by simp [hi]) ng a
  have := cns_le (fun j => if j = S.1 (h - 1) then true else decide (3 ≤ S.2.1 (fg + j))) ng
  have := H.2.2.2.1
  omega
theorem AI.push {fi si : Nat → Nat} {fg ng h : Nat} {S : AS} (H : AI fg ng h S) (hh : 0 < h) (hf : fi (S.1 (h - 1)) < fg + ng) (hs : si (S.1 (h - 1)) < fg + ng) (h1 : S.2.1 (fi (S.1 (h - 1))) = 1 ∨ S.2.1 (si (S.1 (h - 1))) = 1) : AI fg ng (h + 1) (ar_p fi si fg h S) ∧ fg ≤ ar_n fi si S (S.1 (h - 1)) ∧ ar_n fi si S (S.1 (h - 1)) < fg + ng ∧ h + S.2.2.2.1 < ng := by
  have hx : ar_n fi si S (S.1 (h - 1)) < fg + ng ∧ S.2.1 (ar_n fi si S (S.1 (h - 1))) = 1 := by
    unfold ar_n
    split
    · exact ⟨hf, by assumption⟩
    · exact ⟨hs, by rcases h1 with q | q; exact absurd q (by assumption); exact q⟩
  unfold ar_p
  generalize ar_n fi si S (S.1 (h - 1)) = x at hx ⊢
  obtain ⟨h2, h3⟩ := H.room hx.1 hx.2
  refine ⟨⟨fun i hi => ?_, fun i j hij hj => ?_, ?_, ?_, fun j hj => ?_, fun j hj => ?_, H.2.2.2.2.2.2.1, H.2.2.2.2.2.2.2⟩, h2, hx.1, h3⟩
  · show va_up S.1 h (x - fg) i < ng ∧ va_up S.2.1 x 0 (fg + va_up S.1 h (x - fg) i) = 0
    by_cases e : i = h
    · subst e; rw [va_up_self, show fg + (x - fg) = x by omega, va_up_self]; exact ⟨by omega, rfl⟩
    · rw [va_up_ne _ _ e]
      obtain ⟨a, b⟩ := H.1 i (by omega)
      refine ⟨a, ?_⟩
      by_cases e2 : fg + S.1 i = x
      · rw [e2, va_up_self]
      · rw [va_up_ne _ _ e2]; exact b
  · show va_up S.1 h (x - fg) i ≠ va_up S.1 h (x - fg) j
    by_cases e : j = h
    · subst e
      rw [va_up_self, va_up_ne _ _ (by omega)]
      intro q
      obtain ⟨a, b⟩ := H.1 i (by omega)
      rw [q, show fg + (x - fg) = x by omega, hx.2] at b
      exact absurd b (by decide)
    · rw [va_up_ne _ _ e, va_up_ne _ _ (by omega)]; exact H.2.1 i j hij (by omega)
  · show cns (fun j => decide (va_up S.2.1 x 0 (fg + j) = 0)) ng = h + 1
    rw [← H.2.2.1]
    refine cns_up (j := x - fg) (by simp only [show fg + (x - fg) = x by omega, hx.2]; decide) (by simp only [show fg + (x - fg) = x by omega, va_up_self]; decide) (fun i hi => ?_) ng (by omega)
    show decide (S.2.1 (fg + i) = 0) = decide (va_up S.2.1 x 0 (fg + i) = 0)
    rw [va_up_ne _ _ (by omega)]
  · show cns (fun j => decide (3 ≤ va_up S.2.1 x 0 (fg + j))) ng = S.2.2.2.1
    rw [← H.2.2.2.1]
    refine cns_eq ng (fun i hi => ?_)
    show decide (3 ≤ va_up S.2.1 x 0 (fg + i)) = decide (3 ≤ S.2.1 (fg + i))
    by_cases e : fg + i = x
    · rw [e, va_up_self, hx.2]; decide
    · rw [va_up_ne _ _ e]
  · show va_up S.2.1 x 0 j = 2
    rw [va_up_ne _ _ (by omega)]; exact H.2.2.2.2.1 j hj
  · show va_up S.2.1 x 0 j ≤ S.2.2.2.1 + 2
    by_cases e : j = x
    · rw [e, va_up_self]; omega
    · rw [va_up_ne _ _ e]; exact H.2.2.2.2.2.1 j hj
theorem AI.pop {fi si : Nat → Nat} {fg ng h : Nat} {S : AS} (H : AI fg ng h S) (hh : 0 < h) (hf : fi (S.1 (h - 1)) < fg + ng) (hs : si (S.1 (h - 1)) < fg + ng) : AI fg ng (h - 1) (ap fg (S.1 (h - 1)) (ar_l fi si S (S.1 (h - 1))) S) ∧ ar_l fi si S (S.1 (h - 1)) ≤ S.2.2.2.1 + 1 := by
  obtain ⟨a, b⟩ := H.1 (h - 1) (by omega)
  have hv : ar_l fi si S (S.1 (h - 1)) ≤ S.2.2.2.1 + 1 ∧ 1 ≤ ar_l fi si S (S.1 (h - 1)) := by
    have q1 := H.2.2.2.2.2.1 _ hf
    have q2 := H.2.2.2.2.2.1 _ hs
    unfold ar_l; omega
  generalize ar_l fi si S (S.1 (h - 1)) = v at hv ⊢
  have hne : ∀ i, i < h - 1 → S.1 i ≠ S.1 (h - 1) := fun i hi => H.2.1 i (h - 1) hi (by omega)
  generalize S.1 (h - 1) = t at a b hne ⊢
  unfold ap
  refine ⟨⟨fun i hi => ?_, fun i j hij hj => H.2.1 i j hij (by omega), ?_, ?_, fun j hj => ?_, fun j hj => ?_, ?_, fun j hj => ?_⟩, hv.1⟩
  · show S.1 i < ng ∧ va_up S.2.1 (fg + t) (v + 2) (fg + S.1 i) = 0
    obtain ⟨a2, b2⟩ := H.1 i (by omega)
    refine ⟨a2, ?_⟩
    rw [va_up_ne _ _ (by have := hne i hi; omega)]; exact b2
  · show cns (fun j => decide (va_up S.2.1 (fg + t) (v + 2) (fg + j) = 0)) ng = h - 1
    have := cns_up (p := fun j => decide (va_up S.2.1 (fg + t) (v + 2) (fg + j) = 0)) (q := fun j => decide (S.2.1 (fg + j) = 0)) (j := t) (by simp only [va_up_self]; simp) (by simp only [b]; decide) (fun i hi => by rw [va_up_ne _ _ (by omega)]) ng a
    have := H.2.2.1
    omega
  · show cns (fun j => decide (3 ≤ va_up S.2.1 (fg + t) (v + 2) (fg + j))) ng = S.2.2.2.1 + 1
    rw [← H.2.2.2.1]
    exact cns_up (j := t) (by simp only [b]; decide) (by simp only [va_up_self]; exact decide_eq_true (by omega)) (fun i hi => by rw [va_up_ne _ _ (by omega)]) ng a
  · show va_up S.2.1 (fg + t) (v + 2) j = 2
    rw [va_up_ne _ _ (by omega)]; exact H.2.2.2.2.1 j hj
  · show va_up S.2.1 (fg + t) (v + 2) j ≤ S.2.2.2.1 + 1 + 2
    by_cases e : j = fg + t
    · rw [e, va_up_self]; omega
    · rw [va_up_ne _ _ e]; have := H.2.2.2.2.2.1 j hj; omega
  · show max S.2.2.2.2 v ≤ S.2.2.2.1 + 1
    have := H.2.2.2.2.2.2.1; omega
  · show va_up S.2.2.1 S.2.2.2.1 t j < ng
    by_cases e : j = S.2.2.2.1
    · rw [e, va_up_self]; exact a
    · rw [va_up_ne _ _ e]; exact H.2.2.2.2.2.2.2 j (by have : j < S.2.2.2.1 + 1 := hj; omega)
/-- the first Nand of a chain -/
def ar_0 (fg x : Nat) (S : AS) : AS := (va_up S.1 0 x, va_up S.2.1 (fg + x) 0, S.2.2)
theorem AI.start {fg ng x : Nat} {S : AS} (H : AI fg ng 0 S) (hx : x < ng) (h1 : S.2.1 (fg + x) = 1) : AI fg ng 1 (ar_0 fg x S) := by
  refine ⟨fun i hi => ?_, fun i j hij hj => absurd hij (by omega), ?_, ?_, fun j hj => ?_, fun j hj => ?_, H.2.2.2.2.2.2.1, H.2.2.2.2.2.2.2⟩
  · rw [show i = 0 by omega]
    show va_up S.1 0 x 0 < ng ∧ va_up S.2.1 (fg + x) 0 (fg + va_up S.1 0 x 0) = 0
    rw [va_up_self, va_up_self]; exact ⟨hx, rfl⟩
  · show cns (fun j => decide (va_up S.2.1 (fg + x) 0 (fg + j) = 0)) ng = 1
    have := cns_up (p := fun j => decide (S.2.1 (fg + j) = 0)) (q := fun j => decide (va_up S.2.1 (fg + x) 0 (fg + j) = 0)) (j := x) (by simp only [h1]; decide) (by simp only [va_up_self]; decide) (fun i hi => by rw [va_up_ne _ _ (by omega)]) ng hx
    rw [this, H.2.2.1]
  · show cns (fun j => decide (3 ≤ va_up S.2.1 (fg + x) 0 (fg + j))) ng = S.2.2.2.1
    rw [← H.2.2.2.1]
    refine cns_eq ng (fun i hi => ?_)
    show decide (3 ≤ va_up S.2.1 (fg + x) 0 (fg + i)) = decide (3 ≤ S.2.1 (fg + i))
    by_cases e : i = x
    · rw [e, va_up_self, h1]; decide
    · rw [va_up_ne _ _ (by omega)]
  · show va_up S.2.1 (fg + x) 0 j = 2
    rw [va_up_ne _ _ (by omega)]; exact H.2.2.2.2.1 j hj
  · show va_up S.2.1 (fg + x) 0 j ≤ S.2.2.2.1 + 2
    by_cases e : j = fg + x
    · rw [e, va_up_self]; omega
    · rw [va_up_ne _ _ e]; exact H.2.2.2.2.2.1 j hj
/-- a chain ends with an empty stack, or at a ring: each Nand is begun and ended once -/
theorem ar_end {fi si : Nat → Nat} {fg ng : Nat} (hf : ∀ x, x < ng → fi x < fg + ng) (hs : ∀ x, x < ng → si x < fg + ng) : ∀ k h S, AI fg ng h S → 2 * (ng - h - S.2.2.2.1) + h < k → (ar fi si fg k h S).1 = true → AI fg ng 0 (ar fi si fg k h S).2
  | 0, h, S, H, hk, _ => absurd hk (by omega)
  | k + 1, h, S, H, hk, ht => by
    rw [show k + 1 = (k + 1) - 0 from rfl, ar_u, if_pos (by omega)] at ht ⊢
    by_cases e : h = 0
    · rw [if_pos e] at ht ⊢; rw [e] at H; exact H
    · rw [if_neg e] at ht ⊢
      obtain ⟨a, b⟩ := H.1 (h - 1) (by omega)
      by_cases e1 : S.2.1 (fi (S.1 (h - 1))) = 0 ∨ S.2.1 (si (S.1 (h - 1))) = 0
      · rw [if_pos e1] at ht; exact Bool.noConfusion ht
      · rw [if_neg e1] at ht ⊢
        by_cases e2 : S.2.1 (fi (S.1 (h - 1))) = 1 ∨ S.2.1 (si (S.1 (h - 1))) = 1
        · rw [if_pos e2] at ht ⊢
          obtain ⟨H2, -, -, h4⟩ := H.push (by omega) (hf _ a) (hs _ a) e2
          exact ar_end hf hs k (h + 1) _ H2 (by show 2 * (ng - (h + 1) - S.2.2.2.1) + (h + 1) < k; omega) ht
        · rw [if_neg e2] at ht ⊢
          have H2 := (H.pop (fi := fi) (si := si) (by omega) (hf _ a) (hs _ a)).1
          have h5 := H.popn (by omega)
          exact ar_end hf hs k (h - 1) _ H2 (by show 2 * (ng - (h - 1) - (S.2.2.2.1 + 1)) + (h - 1) < k; omega) ht
/-- all gates -/
def ara (fi si : Nat → Nat) (fg : Nat) : Nat → Nat → AS → Bool × AS
  | 0, _, S => (true, S)
  | k + 1, i, S =>
    if S.2.1 (fg + i) = 1 then
      (if (ar fi si fg 900 1 (ar_0 fg i S)).1 = true then ara fi si fg k (i + 1) (ar fi si fg 900 1 (ar_0 fg i S)).2 else (false, (ar fi si fg 900 1 (ar_0 fg i S)).2))
    else ara fi si fg k (i + 1) S
theorem ara_u (fi si : Nat → Nat) (fg n i : Nat) (S : AS) : ara fi si fg (n - i) i S = if i < n then (if S.2.1 (fg + i) = 1 then
      (if (ar fi si fg 900 1 (ar_0 fg i S)).1 = true then ara fi si fg (n - (i + 1)) (i + 1) (ar fi si fg 900 1 (ar_0 fg i S)).2 else (false, (ar fi si fg 900 1 (ar_0 fg i S)).2))
    else ara fi si fg (n - (i + 1)) (i + 1) S) else (true, S) := by
  by_cases q : i < n
  · rw [if_pos q, show n - i = (n - (i + 1)) + 1 by omega]; rfl
  · rw [if_neg q, show n - i = 0 by omega]; rfl
/-! the signals of the IN pins at the start -/
def ssg (ib : Nat) : Nat → Nat → (Nat → Nat ⊕ Nat) × (Nat → Bool) × (Nat → Nat) → (Nat → Nat ⊕ Nat) × (Nat → Bool) × (Nat → Nat)
  | 0, _, S => S
  | k + 1, i, S => ssg ib k (i + 1) (va_up S.1 i (.inr (2 + i)), va_up S.2.1 (2 + i) false, va_up S.2.2 (2 + i) 2)
theorem ssg_u (ib n i : Nat) (S : (Nat → Nat ⊕ Nat) × (Nat → Bool) × (Nat → Nat)) : ssg ib (n - i) i S = if i < n then ssg ib (n - (i + 1)) (i + 1) (va_up S.1 i (.inr (2 + i)), va_up S.2.1 (2 + i) false, va_up S.2.2 (2 + i) 2) else S := by
  by_cases h : i < n
  · rw [if_pos h, show n - i = (n - (i + 1)) + 1 by omega]; rfl
  · rw [if_neg h, show n - i = 0 by omega]; rfl
