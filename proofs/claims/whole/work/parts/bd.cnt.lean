/-! How many gates and bits a chip has -/
def pg_ (S : PS) (gn : Nat → Nat) (q : Nat) : Nat := if 1 < pty S q then gn (pty S q - 2) else 1
def pb2 (S : PS) (bn : Nat → Nat) (q : Nat) : Nat := if 1 < pty S q then bn (pty S q - 2) else if pty S q = 0 then 3 else 2
def sgm (S : PS) (gn : Nat → Nat) : Nat → Nat → Nat
  | 0, _ => 0
  | k + 1, q => pg_ S gn q + sgm S gn k (q + 1)
def sbm (S : PS) (bn : Nat → Nat) : Nat → Nat → Nat
  | 0, _ => 0
  | k + 1, q => pb2 S bn q + sbm S bn k (q + 1)
def npt (S : PS) (c : Nat) : Nat := S.2.2.1 23 (c + 1) - S.2.2.1 23 c
theorem ca_t_s {S : PS} {gn bn : Nat → Nat} : ∀ k q (a : Nat × Nat), (∀ q', q ≤ q' → q' < q + k → S.2.2.2.1 44 q' ≠ none) → ca_t (S.2.2.2.1 44) gn bn k q a = (a.1 + sgm S gn k q, a.2 + sbm S bn k q)
  | 0, _, _, _ => rfl
  | k + 1, q, a, h => by
    show ca_t (S.2.2.2.1 44) gn bn k (q + 1) (ca_1 (S.2.2.2.1 44) gn bn q a) = _
    rw [ca_t_s k (q + 1) _ (fun q' x y => h q' (by omega) (by omega))]
    have e : ca_1 (S.2.2.2.1 44) gn bn q a = (a.1 + pg_ S gn q, a.2 + pb2 S bn q) := by
      unfold ca_1 pg_ pb2 pty
      rcases z : S.2.2.2.1 44 q with _ | i
      · exact absurd z (h q (Nat.le_refl _) (by omega))
      · show (if 1 < i then (a.1 + gn (i - 2), a.2 + bn (i - 2)) else (a.1 + 1, a.2 + (if i = 0 then 3 else 2))) = (a.1 + (if 1 < i then gn (i - 2) else 1), a.2 + (if 1 < i then bn (i - 2) else if i = 0 then 3 else 2))
        by_cases c : 1 < i
        · rw [if_pos c, if_pos c, if_pos c]
        · rw [if_neg c, if_neg c, if_neg c]
    rw [e]
    show (a.1 + pg_ S gn q + sgm S gn k (q + 1), a.2 + pb2 S bn q + sbm S bn k (q + 1)) = (a.1 + (pg_ S gn q + sgm S gn k (q + 1)), a.2 + (pb2 S bn q + sbm S bn k (q + 1)))
    rw [Nat.add_assoc, Nat.add_assoc]
theorem sgm_cg {S : PS} {gn gn' : Nat → Nat} : ∀ k q, (∀ q', q ≤ q' → q' < q + k → 1 < pty S q' → gn (pty S q' - 2) = gn' (pty S q' - 2)) → sgm S gn k q = sgm S gn' k q
  | 0, _, _ => rfl
  | k + 1, q, h => by
    show pg_ S gn q + _ = pg_ S gn' q + _
    rw [sgm_cg k (q + 1) (fun q' x y => h q' (by omega) (by omega))]
    congr 1
    unfold pg_
    split
    · exact h q (Nat.le_refl _) (by omega) (by assumption)
    · rfl
theorem sbm_cg {S : PS} {gn gn' : Nat → Nat} : ∀ k q, (∀ q', q ≤ q' → q' < q + k → 1 < pty S q' → gn (pty S q' - 2) = gn' (pty S q' - 2)) → sbm S gn k q = sbm S gn' k q
  | 0, _, _ => rfl
  | k + 1, q, h => by
    show pb2 S gn q + _ = pb2 S gn' q + _
    rw [sbm_cg k (q + 1) (fun q' x y => h q' (by omega) (by omega))]
    congr 1
    unfold pb2
    split
    · exact h q (Nat.le_refl _) (by omega) (by assumption)
    · rfl
/-- the true counts, N deep -/
def tgb (S : PS) : Nat → Nat → Nat × Nat
  | 0, _ => (0, 0)
  | N + 1, c => (sgm S (fun x => (tgb S N x).1) (npt S c) (S.2.2.1 23 c), ow S c + sbm S (fun x => (tgb S N x).2) (npt S c) (S.2.2.1 23 c))
def tg_ (S : PS) (c : Nat) : Nat := (tgb S 9 c).1
def tb2 (S : PS) (c : Nat) : Nat := (tgb S 9 c).2
/-- chips that are in chip c have lower rank, and all are below 8 -/
def RKS (S : PS) (rk : Nat → Nat) : Prop := (∀ c q, c < S.1 15 → ptc S c q → 1 < pty S q → rk (pty S q - 2) < rk c) ∧ (∀ c, c < S.1 15 → rk c < S.1 15) ∧ S.1 15 ≤ 8
section CNT
variable {ft tv gp : Nat → Int32} {S : PS} {rk : Nat → Nat}
theorem npt_p {c q : Nat} (h1 : S.2.2.1 23 c ≤ q) (h2 : q < S.2.2.1 23 c + npt S c) : ptc S c q := ⟨h1, by unfold npt at h2; omega⟩
theorem tgb_st (hr : RKS S rk) (wf : WFS ft gp S) : ∀ N c, c < S.1 15 → rk c < N → tgb S (N + 1) c = tgb S N c
  | 0, _, _, h => by omega
  | N + 1, c, hc, h => by
    have key : ∀ q', S.2.2.1 23 c ≤ q' → q' < S.2.2.1 23 c + npt S c → 1 < pty S q' → tgb S (N + 1) (pty S q' - 2) = tgb S N (pty S q' - 2) := fun q' a b d => by
      have hp := npt_p a b
      have := (wf c q' hc hp).1
      exact tgb_st hr wf N _ (by omega) (by have := hr.1 c q' hc hp d; omega)
    show (sgm S (fun x => (tgb S (N + 1) x).1) (npt S c) (S.2.2.1 23 c), ow S c + sbm S (fun x => (tgb S (N + 1) x).2) (npt S c) (S.2.2.1 23 c)) = (sgm S (fun x => (tgb S N x).1) (npt S c) (S.2.2.1 23 c), ow S c + sbm S (fun x => (tgb S N x).2) (npt S c) (S.2.2.1 23 c))
    rw [sgm_cg (gn := fun x => (tgb S (N + 1) x).1) (gn' := fun x => (tgb S N x).1) _ _ (fun q' a b d => by show (tgb S (N + 1) _).1 = (tgb S N _).1; rw [key q' a b d]), sbm_cg (gn := fun x => (tgb S (N + 1) x).2) (gn' := fun x => (tgb S N x).2) _ _ (fun q' a b d => by show (tgb S (N + 1) _).2 = (tgb S N _).2; rw [key q' a b d])]
theorem tg_e (hr : RKS S rk) (wf : WFS ft gp S) {c : Nat} (hc : c < S.1 15) : tg_ S c = sgm S (tg_ S) (npt S c) (S.2.2.1 23 c) ∧ tb2 S c = ow S c + sbm S (tb2 S) (npt S c) (S.2.2.1 23 c) := by
  have key : ∀ q', S.2.2.1 23 c ≤ q' → q' < S.2.2.1 23 c + npt S c → 1 < pty S q' → tgb S 8 (pty S q' - 2) = tgb S 9 (pty S q' - 2) := fun q' a b d => by
    have hp := npt_p a b
    have h2 := (wf c q' hc hp).1
    exact (tgb_st hr wf 8 _ (by omega) (by have := hr.2.1 (pty S q' - 2) (by omega); have := hr.2.2; omega)).symm
  refine ⟨?_, ?_⟩
  · show sgm S (fun x => (tgb S 8 x).1) (npt S c) (S.2.2.1 23 c) = _
    exact sgm_cg _ _ (fun q' a b d => by show (tgb S 8 _).1 = (tgb S 9 _).1; rw [key q' a b d])
  · show ow S c + sbm S (fun x => (tgb S 8 x).2) (npt S c) (S.2.2.1 23 c) = _
    rw [sbm_cg (gn := fun x => (tgb S 8 x).2) (gn' := tb2 S) _ _ (fun q' a b d => by show (tgb S 8 _).2 = (tgb S 9 _).2; rw [key q' a b d])]
theorem sgm_m {gn : Nat → Nat} {q' : Nat} : ∀ k q, q ≤ q' → q' < q + k → pg_ S gn q' ≤ sgm S gn k q
  | 0, q, a, b => by omega
  | k + 1, q, a, b => by
    show _ ≤ pg_ S gn q + sgm S gn k (q + 1)
    by_cases e : q' = q
    · rw [e]; exact Nat.le_add_right _ _
    · exact Nat.le_trans (sgm_m k (q + 1) (by omega) (by omega)) (Nat.le_add_left _ _)
theorem sbm_m {gn : Nat → Nat} {q' : Nat} : ∀ k q, q ≤ q' → q' < q + k → pb2 S gn q' ≤ sbm S gn k q
  | 0, q, a, b => by omega
  | k + 1, q, a, b => by
    show _ ≤ pb2 S gn q + sbm S gn k (q + 1)
    by_cases e : q' = q
    · rw [e]; exact Nat.le_add_right _ _
    · exact Nat.le_trans (sbm_m k (q + 1) (by omega) (by omega)) (Nat.le_add_left _ _)
/-- sums of cut numbers, cut -/
theorem sgm_cap {t : Nat → Nat} : ∀ k q a, cap (a + sgm S (fun x => cap (t x)) k q) = cap (a + sgm S t k q)
  | 0, _, _ => rfl
  | k + 1, q, a => by
    show cap (a + (pg_ S (fun x => cap (t x)) q + sgm S (fun x => cap (t x)) k (q + 1))) = cap (a + (pg_ S t q + sgm S t k (q + 1)))
    rw [← Nat.add_assoc, ← Nat.add_assoc, sgm_cap k (q + 1) (a + pg_ S (fun x => cap (t x)) q)]
    unfold pg_
    split
    · show cap (a + cap (t (pty S q - 2)) + _) = _
      unfold cap
      by_cases z : t (pty S q - 2) ≤ 1000000
      · rw [if_pos z]
      · rw [if_neg z]
        rw [if_neg (show ¬ a + t (pty S q - 2) + sgm S t k (q + 1) ≤ 1000000 by omega)]
        split <;> omega
    · rfl
theorem sbm_cap {t : Nat → Nat} : ∀ k q a, cap (a + sbm S (fun x => cap (t x)) k q) = cap (a + sbm S t k q)
  | 0, _, _ => rfl
  | k + 1, q, a => by
    show cap (a + (pb2 S (fun x => cap (t x)) q + sbm S (fun x => cap (t x)) k (q + 1))) = cap (a + (pb2 S t q + sbm S t k (q + 1)))
    rw [← Nat.add_assoc, ← Nat.add_assoc, sbm_cap k (q + 1) (a + pb2 S (fun x => cap (t x)) q)]
    unfold pb2
    split
    · show cap (a + cap (t (pty S q - 2)) + _) = _
      unfold cap
      by_cases z : t (pty S q - 2) ≤ 1000000
      · rw [if_pos z]
      · rw [if_neg z]
        rw [if_neg (show ¬ a + t (pty S q - 2) + sbm S t k (q + 1) ≤ 1000000 by omega)]
        split <;> omega
    · rfl
/-- chip c is counted right -/
def okc (S : PS) (N : (Nat → Nat) × (Nat → Nat)) (c : Nat) : Prop := N.1 c = cap (tg_ S c) ∧ N.2 c = cap (tb2 S c)
/-- all parts are something -/
def a44 (S : PS) : Prop := ∀ c q, c < S.1 15 → ptc S c q → S.2.2.2.1 44 q ≠ none
theorem ca_s_ok (hr : RKS S rk) (wf : WFS ft gp S) (h4 : a44 S) {N : (Nat → Nat) × (Nat → Nat)} {c : Nat} (hc : c < S.1 15) (hN : ∀ c', c' < S.1 15 → rk c' < rk c → okc S N c') : okc S (ca_s (S.2.2.1 17) (S.2.2.1 21) (S.2.2.1 36) (S.2.2.2.1 39) (S.2.2.1 23) (S.2.2.2.1 44) c N) c := by
  have e : ca_c (S.2.2.1 17) (S.2.2.1 21) (S.2.2.1 36) (S.2.2.2.1 39) (S.2.2.1 23) (S.2.2.2.1 44) N.1 N.2 c = (0 + sgm S N.1 (npt S c) (S.2.2.1 23 c), ow S c + sbm S N.2 (npt S c) (S.2.2.1 23 c)) := ca_t_s _ _ _ (fun q' a b => h4 c q' hc (npt_p a b))
  have key : ∀ q', S.2.2.1 23 c ≤ q' → q' < S.2.2.1 23 c + npt S c → 1 < pty S q' → okc S N (pty S q' - 2) := fun q' a b d => by
    have hp := npt_p a b
    have := (wf c q' hc hp).1
    exact hN _ (by omega) (hr.1 c q' hc hp d)
  obtain ⟨t1, t2⟩ := tg_e hr wf hc
  refine ⟨?_, ?_⟩
  · show va_up N.1 c (cap (ca_c _ _ _ _ _ _ N.1 N.2 c).1) c = _
    rw [va_up_self, e, t1]
    show cap (0 + sgm S N.1 _ _) = _
    rw [sgm_cg (gn := N.1) (gn' := fun x => cap (tg_ S x)) _ _ (fun q' a b d => (key q' a b d).1), sgm_cap, Nat.zero_add]
  · show va_up N.2 c (cap (ca_c _ _ _ _ _ _ N.1 N.2 c).2) c = _
    rw [va_up_self, e, t2]
    show cap (ow S c + sbm S N.2 _ _) = _
    rw [sbm_cg (gn := N.2) (gn' := fun x => cap (tb2 S x)) _ _ (fun q' a b d => (key q' a b d).2), sbm_cap]
theorem ca_r_ok (hr : RKS S rk) (wf : WFS ft gp S) (h4 : a44 S) {r : Nat} : ∀ k c N, c + k = S.1 15 → (∀ c', c' < S.1 15 → rk c' < r → okc S N c') → (∀ c', c' < c → rk c' < r + 1 → okc S N c') → ∀ c', c' < S.1 15 → rk c' < r + 1 → okc S (ca_r (S.2.2.1 17) (S.2.2.1 21) (S.2.2.1 36) (S.2.2.2.1 39) (S.2.2.1 23) (S.2.2.2.1 44) k c N) c'
  | 0, c, N, hc, _, h2 => fun c' a b => h2 c' (by omega) b
  | k + 1, c, N, hc, h1, h2 => by
    have oth : ∀ c', c' ≠ c → okc S N c' → okc S (ca_s (S.2.2.1 17) (S.2.2.1 21) (S.2.2.1 36) (S.2.2.2.1 39) (S.2.2.1 23) (S.2.2.2.1 44) c N) c' := fun c' ne h => ⟨(va_up_ne _ _ ne).trans h.1, (va_up_ne _ _ ne).trans h.2⟩
    have own : rk c < r + 1 → okc S (ca_s (S.2.2.1 17) (S.2.2.1 21) (S.2.2.1 36) (S.2.2.2.1 39) (S.2.2.1 23) (S.2.2.2.1 44) c N) c := fun h => ca_s_ok hr wf h4 (by omega) (fun c' a b => h1 c' a (by omega))
    refine ca_r_ok hr wf h4 k (c + 1) _ (by omega) (fun c' a b => ?_) (fun c' a b => ?_)
    · by_cases e : c' = c
      · subst e; exact own (by omega)
      · exact oth c' e (h1 c' a b)
    · by_cases e : c' = c
      · subst e; exact own b
      · exact oth c' e (h2 c' (by omega) b)
theorem ca_n_ok (hr : RKS S rk) (wf : WFS ft gp S) (h4 : a44 S) : ∀ k r N, (∀ c', c' < S.1 15 → rk c' < r → okc S N c') → ∀ c', c' < S.1 15 → rk c' < r + k → okc S (ca_n (S.2.2.1 17) (S.2.2.1 21) (S.2.2.1 36) (S.2.2.2.1 39) (S.2.2.1 23) (S.2.2.2.1 44) (S.1 15) k N) c'
  | 0, r, N, h => fun c' a b => h c' a b
  | k + 1, r, N, h => fun c' a b => ca_n_ok hr wf h4 k (r + 1) _ (ca_r_ok hr wf h4 (S.1 15) 0 N (by omega) h (fun c' z => by omega)) c' a (by omega)
theorem rdN_ok (hr : RKS S rk) (wf : WFS ft gp S) (h4 : a44 S) (N : (Nat → Nat) × (Nat → Nat)) {c : Nat} (hc : c < S.1 15) : okc S (rdN S N) c := ca_n_ok hr wf h4 (S.1 15) 0 N (fun c' _ z => by omega) c hc (by have := hr.2.1 c hc; omega)
theorem cap_300 {v n : Nat} (h : cap v ≤ n) (hn : n < 1000000) : cap v = v := by
  unfold cap at h ⊢
  split
  · rfl
  · rename_i z; rw [if_neg z] at h; omega
/-- what the reference's layout asks of the counts -/
theorem bfix_of (hr : RKS S rk) (wf : WFS ft gp S) (h4 : a44 S) (ho : ∀ c, c < S.1 15 → 2 ≤ ow S c) (N : (Nat → Nat) × (Nat → Nat)) : bfix S (rdN S N).1 (rdN S N).2 := by
  refine ⟨fun c hc h1 h2 => ?_, ho⟩
  have ok := fun c' (h : c' < S.1 15) => rdN_ok hr wf h4 N h
  have o := ok c hc
  rw [o.1] at h1
  rw [o.2] at h2
  have c1 := cap_300 h1 (by decide)
  have c2 := cap_300 h2 (by decide)
  rw [c1] at h1
  rw [c2] at h2
  obtain ⟨t1, t2⟩ := tg_e hr wf hc
  have e := ca_t_s (gn := (rdN S N).1) (bn := (rdN S N).2) (npt S c) (S.2.2.1 23 c) (0, 0) (fun q' a b => h4 c q' hc (npt_p a b))
  have key : ∀ q', S.2.2.1 23 c ≤ q' → q' < S.2.2.1 23 c + npt S c → 1 < pty S q' → (rdN S N).1 (pty S q' - 2) = tg_ S (pty S q' - 2) ∧ (rdN S N).2 (pty S q' - 2) = tb2 S (pty S q' - 2) := fun q' a b d => by
    have hp := npt_p a b
    have h2' := (wf c q' hc hp).1
    have k := ok (pty S q' - 2) (by omega)
    have m1 := sgm_m (S := S) (gn := tg_ S) (npt S c) (S.2.2.1 23 c) a b
    have m2 := sbm_m (S := S) (gn := tb2 S) (npt S c) (S.2.2.1 23 c) a b
    unfold pg_ at m1
    unfold pb2 at m2
    rw [if_pos d] at m1 m2
    rw [k.1, k.2]
    refine ⟨?_, ?_⟩
    · unfold cap; rw [if_pos (by omega)]
    · unfold cap; rw [if_pos (by omega)]
  have e1 : pgs S (rdN S N).1 (rdN S N).2 c = sgm S (tg_ S) (npt S c) (S.2.2.1 23 c) := by
    unfold pgs
    rw [show S.2.2.1 23 (c + 1) - S.2.2.1 23 c = npt S c from rfl, e]
    show 0 + _ = _
    rw [Nat.zero_add]
    exact sgm_cg _ _ (fun q' a b d => (key q' a b d).1)
  have e2 : pbs S (rdN S N).1 (rdN S N).2 c = sbm S (tb2 S) (npt S c) (S.2.2.1 23 c) := by
    unfold pbs
    rw [show S.2.2.1 23 (c + 1) - S.2.2.1 23 c = npt S c from rfl, e]
    show 0 + _ = _
    rw [Nat.zero_add]
    exact sbm_cg _ _ (fun q' a b d => (key q' a b d).2)
  rw [e1, e2, o.1, o.2, c1, c2]
  exact ⟨t1, t2⟩
/-- the reference's test, and what it means -/
theorem fits_of (hr : RKS S rk) (wf : WFS ft gp S) (h4 : a44 S) (N : (Nat → Nat) × (Nat → Nat)) {c : Nat} (hc : c < S.1 15) : ((rdN S N).1 c ≤ 300 ∧ (rdN S N).2 c ≤ 8000) ↔ (tg_ S c ≤ 300 ∧ tb2 S c ≤ 8000) := by
  have o := rdN_ok hr wf h4 N hc
  rw [o.1, o.2]
  unfold cap
  constructor
  · rintro ⟨a, b⟩
    constructor
    · split at a <;> omega
    · split at b <;> omega
  · rintro ⟨a, b⟩
    rw [if_pos (by omega), if_pos (by omega)]
    exact ⟨a, b⟩
/-- the class's layout: whether there is room, and how much it takes -/
def LCN (S : PS) (rk : Nat → Nat) (d : Nat) (rec_ : Nat → Nat → LZ → Bool × LZ) : Prop := ∀ c bs (Z : LZ), c < S.1 15 → rk c < d → lyb Z → ow S c + Z.1 ≤ 8000 + ow S c → (((rec_ c bs Z).1 = true ↔ (Z.1 + tb2 S c ≤ 8000 + ow S c ∧ Z.2.2.2.2.2.2.2.2 + tg_ S c ≤ 300)) ∧ ((rec_ c bs Z).1 = true → (rec_ c bs Z).2.1 + ow S c = Z.1 + tb2 S c ∧ (rec_ c bs Z).2.2.2.2.2.2.2.2.2 = Z.2.2.2.2.2.2.2.2 + tg_ S c))
theorem ly1_cn {fg d : Nat} {rec_ : Nat → Nat → LZ → Bool × LZ} (hr : RKS S rk) (wf : WFS ft gp S) (hrec : LCN S rk d rec_) {c bs q : Nat} {Z : LZ} (hc : c < S.1 15) (hd : rk c < d + 1) (hq : ptc S c q) (hz : lyb Z) : ((ly1 ft tv gp S rec_ fg c bs q Z).1 = true ↔ (Z.1 + pb2 S (tb2 S) q ≤ 8000 ∧ Z.2.2.2.2.2.2.2.2 + pg_ S (tg_ S) q ≤ 300)) ∧ ((ly1 ft tv gp S rec_ fg c bs q Z).1 = true → (ly1 ft tv gp S rec_ fg c bs q Z).2.1 = Z.1 + pb2 S (tb2 S) q ∧ (ly1 ft tv gp S rec_ fg c bs q Z).2.2.2.2.2.2.2.2.2 = Z.2.2.2.2.2.2.2.2 + pg_ S (tg_ S) q) := by
  have w := (wf c q hc hq).1
  have z1 := hz.1
  have z2 := hz.2
  have eU : ly1 ft tv gp S rec_ fg c bs q Z = if 8000 - Z.1 < pbn S (pty S q) then (false, Z) else if 1 < pty S q then rec_ (pty S q - 2) Z.1 (lyl ft tv gp S c bs q Z) else lyg (pty S q) fg Z.1 (lyl ft tv gp S c bs q Z) := rfl
  have l1 : (lyl ft tv gp S c bs q Z).1 = Z.1 + pbn S (pty S q) := rfl
  have l2 : (lyl ft tv gp S c bs q Z).2.2.2.2.2.2.2.2 = Z.2.2.2.2.2.2.2.2 := rfl
  rw [eU]
  by_cases c1 : 1 < pty S q
  · have po : pbn S (pty S q) = ow S (pty S q - 2) := by unfold pbn; rw [if_pos c1]
    have t := (tg_e hr wf (c := pty S q - 2) (by omega)).2
    have e1 : pb2 S (tb2 S) q = tb2 S (pty S q - 2) := if_pos c1
    have e2 : pg_ S (tg_ S) q = tg_ S (pty S q - 2) := if_pos c1
    rw [e1, e2]
    by_cases f : 8000 - Z.1 < pbn S (pty S q)
    · rw [if_pos f]
      refine ⟨⟨fun z => (by cases z), fun z => ?_⟩, fun z => (by cases z)⟩
      omega
    · rw [if_neg f, if_pos c1]
      have r := hrec (pty S q - 2) Z.1 (lyl ft tv gp S c bs q Z) (by omega) (by have := hr.1 c q hc hq c1; omega) ⟨by rw [l1]; omega, by rw [l2]; exact z2⟩ (by rw [l1]; omega)
      rw [l1, l2] at r
      refine ⟨r.1.trans ⟨fun z => ⟨by omega, z.2⟩, fun z => ⟨by omega, z.2⟩⟩, fun z => ⟨by have := (r.2 z).1; omega, (r.2 z).2⟩⟩
  · have e1 : pb2 S (tb2 S) q = if pty S q = 0 then 3 else 2 := if_neg c1
    have e2 : pg_ S (tg_ S) q = 1 := if_neg c1
    have po : pbn S (pty S q) = if pty S q = 0 then 3 else 2 := by unfold pbn; rw [if_neg c1]
    rw [e1, e2, ← po]
    by_cases f : 8000 - Z.1 < pbn S (pty S q)
    · rw [if_pos f]
      refine ⟨⟨fun z => (by cases z), fun z => ?_⟩, fun z => (by cases z)⟩
      omega
    · rw [if_neg f, if_neg c1]
      unfold lyg
      rw [l2]
      by_cases n3 : Z.2.2.2.2.2.2.2.2 < 300
      · rw [if_pos n3]
        exact ⟨⟨fun _ => ⟨by omega, by omega⟩, fun _ => rfl⟩, fun _ => ⟨rfl, rfl⟩⟩
      · rw [if_neg n3]
        exact ⟨⟨fun z => (by cases z), fun z => by omega⟩, fun z => (by cases z)⟩
theorem lyp_cn {fg d : Nat} {rec_ : Nat → Nat → LZ → Bool × LZ} (hr : RKS S rk) (wf : WFS ft gp S) (hrec : LCN S rk d rec_) (hrb : ∀ c bs Z, lyb Z → lyb (rec_ c bs Z).2) {c bs : Nat} (hc : c < S.1 15) (hd : rk c < d + 1) : ∀ k q (Z : LZ), S.2.2.1 23 c ≤ q → q + k ≤ S.2.2.1 23 c + npt S c → lyb Z → ((lyp ft tv gp S rec_ fg c bs k q Z).1 = true ↔ (Z.1 + sbm S (tb2 S) k q ≤ 8000 ∧ Z.2.2.2.2.2.2.2.2 + sgm S (tg_ S) k q ≤ 300)) ∧ ((lyp ft tv gp S rec_ fg c bs k q Z).1 = true → (lyp ft tv gp S rec_ fg c bs k q Z).2.1 = Z.1 + sbm S (tb2 S) k q ∧ (lyp ft tv gp S rec_ fg c bs k q Z).2.2.2.2.2.2.2.2.2 = Z.2.2.2.2.2.2.2.2 + sgm S (tg_ S) k q)
  | 0, q, Z, _, _, hz => ⟨⟨fun _ => ⟨hz.1, hz.2⟩, fun _ => rfl⟩, fun _ => ⟨rfl, rfl⟩⟩
  | k + 1, q, Z, h1, h2, hz => by
    have o := ly1_cn (tv := tv) (fg := fg) (bs := bs) hr wf hrec hc hd (npt_p h1 (by omega)) hz
    have eU : lyp ft tv gp S rec_ fg c bs (k + 1) q Z = if (ly1 ft tv gp S rec_ fg c bs q Z).1 = true then lyp ft tv gp S rec_ fg c bs k (q + 1) (ly1 ft tv gp S rec_ fg c bs q Z).2 else ly1 ft tv gp S rec_ fg c bs q Z := rfl
    have s1 : sbm S (tb2 S) (k + 1) q = pb2 S (tb2 S) q + sbm S (tb2 S) k (q + 1) := rfl
    have s2 : sgm S (tg_ S) (k + 1) q = pg_ S (tg_ S) q + sgm S (tg_ S) k (q + 1) := rfl
    rw [eU, s1, s2]
    by_cases e : (ly1 ft tv gp S rec_ fg c bs q Z).1 = true
    · rw [if_pos e]
      have e2 := o.2 e
      have r := lyp_cn (fg := fg) (bs := bs) hr wf hrec hrb hc hd k (q + 1) (ly1 ft tv gp S rec_ fg c bs q Z).2 (by omega) (by omega) (ly1_b hrb hz)
      rw [e2.1, e2.2] at r
      exact ⟨r.1.trans ⟨fun z => ⟨by omega, by omega⟩, fun z => ⟨by omega, by omega⟩⟩, fun z => ⟨by have := (r.2 z).1; omega, by have := (r.2 z).2; omega⟩⟩
    · rw [if_neg e]
      refine ⟨⟨fun z => absurd z e, fun z => absurd (o.1.mpr ⟨by omega, by omega⟩) e⟩, fun z => absurd z e⟩
theorem lay_cn {fg : Nat} (hr : RKS S rk) (wf : WFS ft gp S) : ∀ d, LCN S rk d (lay ft tv gp S fg d)
  | 0 => fun c bs Z _ h => by omega
  | d + 1 => fun c bs Z hc hd hz _ => by
    have t := tg_e hr wf hc
    have r := lyp_cn (tv := tv) (fg := fg) (bs := bs) (rec_ := lay ft tv gp S fg d) hr wf (lay_cn hr wf d) (lay_b d) hc hd (npt S c) (S.2.2.1 23 c) Z (Nat.le_refl _) (Nat.le_refl _) hz
    have e : lay ft tv gp S fg (d + 1) c bs Z = lyp ft tv gp S (lay ft tv gp S fg d) fg c bs (npt S c) (S.2.2.1 23 c) Z := rfl
    rw [e, t.1, t.2]
    exact ⟨r.1.trans ⟨fun z => ⟨by omega, z.2⟩, fun z => ⟨by omega, z.2⟩⟩, fun z => ⟨by have := (r.2 z).1; omega, (r.2 z).2⟩⟩
end CNT
