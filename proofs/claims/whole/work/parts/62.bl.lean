/-! the reference's layout: bits, gates and waiting chips stay within their rows -/
/-- a chip's own bits; the bits of a part that is i -/
def ow (P : PS) (k : Nat) : Nat := m_iplace (P.2.2.1 17) (P.2.2.1 21) (P.2.2.1 36) (P.2.2.2.1 39) k (P.2.2.1 36 (k + 1))
def pbn (P : PS) (i : Nat) : Nat := if 1 < i then ow P (i - 2) else if i = 0 then 3 else 2
def q_mb (P : PS) (i x l : Nat) : Nat := m_bits (P.2.2.2.1 29 l) (P.2.2.1 30 l) (P.2.2.1 31 l) (m_wd (P.2.2.1 21) i x)
/-- a link of a part that is i in chip c ties bits that are there -/
def kb_l (ft gp : Nat → Int32) (P : PS) (c i l : Nat) : Prop := ∃ x, q_pin ft gp P i (P.2.2.1 28 l) = some x ∧ m_fits (P.2.2.2.1 29 l) (P.2.2.1 30 l) (P.2.2.1 31 l) (m_wd (P.2.2.1 21) i x) = true ∧ (P.2.2.1 7 (P.2.2.1 32 l) = 1 → q_own ft P c (P.2.2.1 32 l) ≠ none ∨ q_inn ft P c (P.2.2.1 32 l) ≠ none) ∧ q_lf P i x 0 l + q_mb P i x l ≤ pbn P i ∧ (P.2.2.1 7 (P.2.2.1 32 l) = 1 → q_rt ft P c 0 l + q_mb P i x l ≤ ow P c) ∧ (m_isOut (P.2.2.2.2 19) i x = true → P.2.2.1 7 (P.2.2.1 32 l) = 1) ∧ q_mb P i x l ≤ 16
def kb_p (ft gp : Nat → Int32) (P : PS) : Prop := ∀ c p, c < P.1 15 → P.2.2.1 23 c ≤ p → p < P.2.2.1 23 (c + 1) → ∃ i, P.2.2.2.1 44 p = some i ∧ i < 2 + P.1 15 ∧ ∀ l, P.2.2.1 26 p ≤ l → l < P.2.2.1 26 (p + 1) → kb_l ft gp P c i l
theorem q_lf_0 (P : PS) (i x pb l : Nat) : q_lf P i x pb l = pb + q_lf P i x 0 l := by unfold q_lf; omega
theorem q_rt_0 (ft : Nat → Int32) (P : PS) (c bs l : Nat) (h : P.2.2.1 7 (P.2.2.1 32 l) = 1) : q_rt ft P c bs l = bs + q_rt ft P c 0 l := by unfold q_rt; rw [if_pos h, if_pos h]; omega
theorem q_rt_n (ft : Nat → Int32) (P : PS) (c bs l : Nat) (h : ¬ P.2.2.1 7 (P.2.2.1 32 l) = 1) : q_rt ft P c bs l = 0 := by unfold q_rt; rw [if_neg h]
def bl_l (ft tv gp : Nat → Int32) (P : PS) (c bs i pb : Nat) : Nat → Nat → (Nat → Nat) → Nat → Nat
  | 0, _, fr => fr
  | k + 1, l, fr => bl_l ft tv gp P c bs i pb k (l + 1) (q_conn ft tv P c bs i pb l ((q_pin ft gp P i (P.2.2.1 28 l)).getD 0) fr)
theorem bl_l_u (ft tv gp : Nat → Int32) (P : PS) (c bs i pb e l : Nat) (fr : Nat → Nat) : bl_l ft tv gp P c bs i pb (e - l) l fr = if l < e then bl_l ft tv gp P c bs i pb (e - (l + 1)) (l + 1) (q_conn ft tv P c bs i pb l ((q_pin ft gp P i (P.2.2.1 28 l)).getD 0) fr) else fr := by
  by_cases h : l < e
  · rw [if_pos h, show e - l = (e - (l + 1)) + 1 by omega]; rfl
  · rw [if_neg h, show e - l = 0 by omega]; rfl
def bl_1 (ft tv gp : Nat → Int32) (P : PS) (c bs p : Nat) (S : LY) : LY := ((np (ow P) ((P.2.2.2.1 44 p).getD 0) S).1, bl_l ft tv gp P c bs ((P.2.2.2.1 44 p).getD 0) S.1.1 (P.2.2.1 26 (p + 1) - P.2.2.1 26 p) (P.2.2.1 26 p) (np (ow P) ((P.2.2.2.1 44 p).getD 0) S).2.1, (np (ow P) ((P.2.2.2.1 44 p).getD 0) S).2.2)
def bl_p (ft tv gp : Nat → Int32) (P : PS) (c bs : Nat) : Nat → Nat → LY → LY
  | 0, _, S => S
  | k + 1, p, S => bl_p ft tv gp P c bs k (p + 1) (bl_1 ft tv gp P c bs p S)
theorem bl_p_u (ft tv gp : Nat → Int32) (P : PS) (c bs e p : Nat) (S : LY) : bl_p ft tv gp P c bs (e - p) p S = if p < e then bl_p ft tv gp P c bs (e - (p + 1)) (p + 1) (bl_1 ft tv gp P c bs p S) else S := by
  by_cases h : p < e
  · rw [if_pos h, show e - p = (e - (p + 1)) + 1 by omega]; rfl
  · rw [if_neg h, show e - p = 0 by omega]; rfl
def bl_pop (S : LY) : LY := ((S.1.1, S.1.2.1 - 1, S.1.2.2), S.2)
def bl_w (ft tv gp : Nat → Int32) (P : PS) (S : LY) : LY := bl_p ft tv gp P (S.2.2.2.1 (S.1.2.1 - 1)) (S.2.2.2.2.1 (S.1.2.1 - 1)) (P.2.2.1 23 (S.2.2.2.1 (S.1.2.1 - 1) + 1) - P.2.2.1 23 (S.2.2.2.1 (S.1.2.1 - 1))) (P.2.2.1 23 (S.2.2.2.1 (S.1.2.1 - 1))) (bl_pop S)
def bl_all (ft tv gp : Nat → Int32) (P : PS) : Nat → LY → LY
  | 0, S => S
  | k + 1, S => if S.1.2.1 = 0 then S else bl_all ft tv gp P k (bl_w ft tv gp P S)
/-- the gates and bits of a chip's parts -/
def pgs (P : PS) (gn bn : Nat → Nat) (c : Nat) : Nat := (ca_t (P.2.2.2.1 44) gn bn (P.2.2.1 23 (c + 1) - P.2.2.1 23 c) (P.2.2.1 23 c) (0, 0)).1
def pbs (P : PS) (gn bn : Nat → Nat) (c : Nat) : Nat := (ca_t (P.2.2.2.1 44) gn bn (P.2.2.1 23 (c + 1) - P.2.2.1 23 c) (P.2.2.1 23 c) (0, 0)).2
theorem ca_1_add (ti : Nat → Option Nat) (gn bn : Nat → Nat) (i : Nat) (S : Nat × Nat) : ca_1 ti gn bn i S = (S.1 + (ca_1 ti gn bn i (0, 0)).1, S.2 + (ca_1 ti gn bn i (0, 0)).2) := by
  unfold ca_1
  cases ti i with
  | none => simp
  | some z =>
    show (if 1 < z then _ else _) = _
    by_cases h : 1 < z
    · simp [h]
    · simp [h]
theorem ca_t_add (ti : Nat → Option Nat) (gn bn : Nat → Nat) : ∀ k i S, ca_t ti gn bn k i S = (S.1 + (ca_t ti gn bn k i (0, 0)).1, S.2 + (ca_t ti gn bn k i (0, 0)).2)
  | 0, i, S => rfl
  | k + 1, i, S => by
    show ca_t ti gn bn k (i + 1) (ca_1 ti gn bn i S) = (S.1 + (ca_t ti gn bn k (i + 1) (ca_1 ti gn bn i (0, 0))).1, S.2 + (ca_t ti gn bn k (i + 1) (ca_1 ti gn bn i (0, 0))).2)
    rw [ca_t_add ti gn bn k (i + 1) (ca_1 ti gn bn i S), ca_t_add ti gn bn k (i + 1) (ca_1 ti gn bn i (0, 0)), ca_1_add ti gn bn i S]
    simp [Nat.add_assoc]
def wsum (f wc_ : Nat → Nat) : Nat → Nat
  | 0 => 0
  | j + 1 => wsum f wc_ j + f (wc_ j)
theorem wsum_up (f wc_ : Nat → Nat) (n v : Nat) : ∀ j, j ≤ n → wsum f (va_up wc_ n v) j = wsum f wc_ j
  | 0, _ => rfl
  | j + 1, h => by
    show wsum f (va_up wc_ n v) j + f (va_up wc_ n v j) = wsum f wc_ j + f (wc_ j)
    rw [wsum_up f wc_ n v j (by omega)]
    unfold va_up
    rw [if_neg (by omega)]
/-- the layout's invariant; xg, xb: gates and bits that are still to be laid beside those that wait -/
def bvi (P : PS) (gn bn : Nat → Nat) (S : LY) (xg xb : Nat) : Prop := (S.1.1 + wsum (pbs P gn bn) S.2.2.2.1 S.1.2.1 + xb ≤ 8000) ∧ (S.1.2.2 + wsum (pgs P gn bn) S.2.2.2.1 S.1.2.1 + xg ≤ 300) ∧ (2 * S.1.2.1 ≤ S.1.1) ∧ (∀ j, j < S.1.2.1 → S.2.2.2.1 j < P.1 15 ∧ S.2.2.2.2.1 j + ow P (S.2.2.2.1 j) ≤ S.1.1) ∧ (∀ i, S.2.1 i < 8002) ∧ (∀ i, S.2.2.1 i ≤ 300) ∧ (∀ g, g < S.1.2.2 → S.2.2.2.2.2.1 g + (if S.2.2.2.2.2.2 g = true then 2 else 3) ≤ S.1.1)
def bfix (P : PS) (gn bn : Nat → Nat) : Prop := (∀ c, c < P.1 15 → gn c ≤ 300 → bn c ≤ 8000 → gn c = pgs P gn bn c ∧ bn c = ow P c + pbs P gn bn c) ∧ ∀ c, c < P.1 15 → 2 ≤ ow P c
theorem rs_lt {v b : Nat} (hv : v < b) : ∀ n i f, (∀ j, f j < b) → ∀ j, rs v n i f j < b
  | 0, _, _, h => h
  | n + 1, i, f, h => rs_lt hv n (i + 1) _ (fun j => by unfold va_up; split; exact hv; exact h j)
theorem bvi_np {P : PS} {gn bn : Nat → Nat} {S : LY} {xg xb i p : Nat} (hf : bfix P gn bn) (hi : P.2.2.2.1 44 p = some i) (hi2 : i < 2 + P.1 15) (h : bvi P gn bn S (xg + (ca_1 (P.2.2.2.1 44) gn bn p (0, 0)).1) (xb + (ca_1 (P.2.2.2.1 44) gn bn p (0, 0)).2)) :
    bvi P gn bn (np (ow P) i S) xg xb ∧ (np (ow P) i S).1.1 = S.1.1 + pbn P i ∧ (1 < i → S.1.1 + ow P (i - 2) ≤ 8000 ∧ S.1.2.1 < 4001) ∧ (¬ 1 < i → S.1.1 + (if i = 0 then 3 else 2) ≤ 8000 ∧ S.1.2.2 < 300) := by
  obtain ⟨h1, h2, h3, h4, h5, h6, h7⟩ := h
  have e : ca_1 (P.2.2.2.1 44) gn bn p (0, 0) = if 1 < i then (gn (i - 2), bn (i - 2)) else (1, if i = 0 then 3 else 2) := by
    unfold ca_1; rw [hi]
    show (if 1 < i then (0 + gn (i - 2), 0 + bn (i - 2)) else (0 + 1, 0 + if i = 0 then 3 else 2)) = _
    simp
  rw [e] at h1 h2
  by_cases hc : 1 < i
  · rw [if_pos hc] at h1 h2
    have h1 : S.1.1 + wsum (pbs P gn bn) S.2.2.2.1 S.1.2.1 + (xb + bn (i - 2)) ≤ 8000 := h1
    have h2 : S.1.2.2 + wsum (pgs P gn bn) S.2.2.2.1 S.1.2.1 + (xg + gn (i - 2)) ≤ 300 := h2
    obtain ⟨f1, f2⟩ := hf.1 (i - 2) (by omega) (by omega) (by omega)
    have f3 := hf.2 (i - 2) (by omega)
    have en : np (ow P) i S = np_c (ow P) i S := if_pos hc
    rw [en]
    refine ⟨⟨?_, ?_, ?_, ?_, ?_, ?_, ?_⟩, ?_, ?_, ?_⟩
    · show S.1.1 + ow P (i - 2) + (wsum (pbs P gn bn) (va_up S.2.2.2.1 S.1.2.1 (i - 2)) S.1.2.1 + pbs P gn bn (va_up S.2.2.2.1 S.1.2.1 (i - 2) S.1.2.1)) + xb ≤ 8000
      rw [wsum_up _ _ _ _ _ (Nat.le_refl _), show va_up S.2.2.2.1 S.1.2.1 (i - 2) S.1.2.1 = i - 2 from if_pos rfl]
      omega
    · show S.1.2.2 + (wsum (pgs P gn bn) (va_up S.2.2.2.1 S.1.2.1 (i - 2)) S.1.2.1 + pgs P gn bn (va_up S.2.2.2.1 S.1.2.1 (i - 2) S.1.2.1)) + xg ≤ 300
      rw [wsum_up _ _ _ _ _ (Nat.le_refl _), show va_up S.2.2.2.1 S.1.2.1 (i - 2) S.1.2.1 = i - 2 from if_pos rfl]
      omega
    · show 2 * (S.1.2.1 + 1) ≤ S.1.1 + ow P (i - 2); omega
    · intro j hj
      have hj : j < S.1.2.1 + 1 := hj
      show va_up S.2.2.2.1 S.1.2.1 (i - 2) j < P.1 15 ∧ va_up S.2.2.2.2.1 S.1.2.1 S.1.1 j + ow P (va_up S.2.2.2.1 S.1.2.1 (i - 2) j) ≤ S.1.1 + ow P (i - 2)
      unfold va_up
      by_cases q : j = S.1.2.1
      · rw [if_pos q, if_pos q]; exact ⟨by omega, by omega⟩
      · rw [if_neg q, if_neg q]; have := h4 j (by omega); exact ⟨this.1, by omega⟩
    · exact rs_lt (by decide) _ _ _ h5
    · intro j; exact Nat.lt_succ_iff.mp (rs_lt (v := 0) (b := 301) (by decide) _ _ _ (fun j => Nat.lt_succ_of_le (h6 j)) j)
    · intro g hg; exact Nat.le_trans (h7 g hg) (Nat.le_add_right _ _)
    · show S.1.1 + ow P (i - 2) = _; unfold pbn; rw [if_pos hc]
    · intro _; exact ⟨by omega, by omega⟩
    · intro q; exact absurd hc q
  · rw [if_neg hc] at h1 h2
    have h1 : S.1.1 + wsum (pbs P gn bn) S.2.2.2.1 S.1.2.1 + (xb + (if i = 0 then 3 else 2)) ≤ 8000 := h1
    have h2 : S.1.2.2 + wsum (pgs P gn bn) S.2.2.2.1 S.1.2.1 + (xg + 1) ≤ 300 := h2
    have en : np (ow P) i S = np_g i S := if_neg hc
    rw [en]
    have hz : (2 : Nat) ≤ (if i = 0 then 3 else 2) := by split <;> omega
    refine ⟨⟨?_, ?_, ?_, ?_, ?_, ?_, ?_⟩, ?_, ?_, ?_⟩
    · show S.1.1 + (if i = 0 then 3 else 2) + wsum (pbs P gn bn) S.2.2.2.1 S.1.2.1 + xb ≤ 8000; omega
    · show S.1.2.2 + 1 + wsum (pgs P gn bn) S.2.2.2.1 S.1.2.1 + xg ≤ 300; omega
    · show 2 * S.1.2.1 ≤ S.1.1 + (if i = 0 then 3 else 2); omega
    · intro j hj; have := h4 j hj; exact ⟨this.1, by show _ ≤ S.1.1 + (if i = 0 then 3 else 2); have := this.2; show S.2.2.2.2.1 j + ow P (S.2.2.2.1 j) ≤ _; omega⟩
    · exact rs_lt (by decide) _ _ _ h5
    · intro j
      show va_up (rs 0 (if i = 0 then 3 else 2) S.1.1 S.2.2.1) (S.1.1 + (if i = 0 then 2 else 1)) (S.1.2.2 + 1) j ≤ 300
      unfold va_up
      by_cases q : j = S.1.1 + (if i = 0 then 2 else 1)
      · rw [if_pos q]; omega
      · rw [if_neg q]; exact Nat.lt_succ_iff.mp (rs_lt (v := 0) (b := 301) (by decide) _ _ _ (fun j => Nat.lt_succ_of_le (h6 j)) j)
    · intro g hg
      have hg : g < S.1.2.2 + 1 := hg
      show va_up S.2.2.2.2.2.1 S.1.2.2 S.1.1 g + (if va_up S.2.2.2.2.2.2 S.1.2.2 (decide (i = 1)) g = true then 2 else 3) ≤ S.1.1 + (if i = 0 then 3 else 2)
      unfold va_up
      by_cases q : g = S.1.2.2
      · rw [if_pos q, if_pos q]
        rcases (show i = 0 ∨ i = 1 by omega) with z | z <;> subst z <;> simp
      · rw [if_neg q, if_neg q]; have := h7 g (by omega); omega
    · show S.1.1 + (if i = 0 then 3 else 2) = _; unfold pbn; rw [if_neg hc]
    · intro q; exact absurd q hc
    · intro _; exact ⟨by omega, by omega⟩
theorem cn1_lt {io cb : Bool} {z lf rt k : Nat} {fr : Nat → Nat} (hz : z < 2) (hl : io = true → lf + k < 8000) (hr : io = false → cb = false → rt + k < 8000) (h : ∀ i, fr i < 8002) : ∀ i, cn1 io cb z lf rt k fr i < 8002 := by
  intro i; unfold cn1
  cases io
  · rw [if_neg (by decide)]; unfold va_up; split
    · cases cb
      · rw [if_neg (by decide)]; have := hr rfl rfl; omega
      · rw [if_pos rfl]; omega
    · exact h i
  · rw [if_pos rfl]; unfold va_up; split
    · have := hl rfl; omega
    · exact h i
theorem cn_lt {io cb : Bool} {z lf rt e : Nat} (hz : z < 2) (hl : io = true → lf + e ≤ 8000) (hr : io = false → cb = false → rt + e ≤ 8000) : ∀ n k fr, n + k ≤ e → (∀ i, fr i < 8002) → ∀ i, cn io cb z lf rt n k fr i < 8002
  | 0, _, _, _, h => h
  | n + 1, k, fr, hk, h => cn_lt hz hl hr n (k + 1) _ (by omega) (cn1_lt hz (fun q => by have := hl q; omega) (fun q q' => by have := hr q q'; omega) h)
theorem kb_l_rt {ft gp : Nat → Int32} {P : PS} {c i l bs x : Nat} (hk : P.2.2.1 7 (P.2.2.1 32 l) = 1 → q_rt ft P c 0 l + q_mb P i x l ≤ ow P c) (h16 : q_mb P i x l ≤ 16) (hb : bs + ow P c ≤ 8000) : q_rt ft P c bs l + q_mb P i x l ≤ 8000 := by
  by_cases q : P.2.2.1 7 (P.2.2.1 32 l) = 1
  · rw [q_rt_0 ft P c bs l q]; have := hk q; omega
  · rw [q_rt_n ft P c bs l q]; omega
theorem bl_l_lt {ft tv gp : Nat → Int32} {P : PS} {c bs i pb : Nat} (hb : bs + ow P c ≤ 8000) (hp : pb + pbn P i ≤ 8000) : ∀ k l fr, (∀ l', l ≤ l' → l' < l + k → kb_l ft gp P c i l') → (∀ j, fr j < 8002) → ∀ j, bl_l ft tv gp P c bs i pb k l fr j < 8002
  | 0, _, _, _, h => h
  | k + 1, l, fr, hk, h => by
    refine bl_l_lt hb hp k (l + 1) _ (fun l' a b => hk l' (by omega) (by omega)) ?_
    obtain ⟨x, k1, k2, k3, k4, k5, k6, k7⟩ := hk l (Nat.le_refl _) (by omega)
    rw [k1]
    unfold q_conn
    refine cn_lt (e := q_mb P i x l) (by unfold q_tz; split <;> omega) (fun _ => ?_) (fun _ _ => kb_l_rt (x := x) (gp := gp) k5 k7 hb) _ _ _ (by unfold q_mb; exact Nat.le_refl _) h
    show q_lf P i x pb l + q_mb P i x l ≤ 8000
    rw [q_lf_0]; omega
/-- a part is laid -/
theorem bvi_1 {ft tv gp : Nat → Int32} {P : PS} {gn bn : Nat → Nat} {S : LY} {xg xb i p c bs : Nat} (hf : bfix P gn bn) (hi : P.2.2.2.1 44 p = some i) (hi2 : i < 2 + P.1 15) (hl : ∀ l, P.2.2.1 26 p ≤ l → l < P.2.2.1 26 (p + 1) → kb_l ft gp P c i l) (hb : bs + ow P c ≤ S.1.1) (h : bvi P gn bn S (xg + (ca_1 (P.2.2.2.1 44) gn bn p (0, 0)).1) (xb + (ca_1 (P.2.2.2.1 44) gn bn p (0, 0)).2)) :
    bvi P gn bn (bl_1 ft tv gp P c bs p S) xg xb ∧ S.1.1 ≤ (bl_1 ft tv gp P c bs p S).1.1 := by
  obtain ⟨r1, r2, -, -⟩ := bvi_np hf hi hi2 h
  unfold bl_1
  rw [hi]
  show bvi P gn bn ((np (ow P) i S).1, bl_l ft tv gp P c bs i S.1.1 (P.2.2.1 26 (p + 1) - P.2.2.1 26 p) (P.2.2.1 26 p) (np (ow P) i S).2.1, (np (ow P) i S).2.2) xg xb ∧ S.1.1 ≤ (np (ow P) i S).1.1
  generalize np (ow P) i S = X at r1 r2 ⊢
  obtain ⟨q1, q2, q3, q4, q5, q6, q7⟩ := r1
  refine ⟨⟨q1, q2, q3, q4, ?_, q6, q7⟩, by omega⟩
  exact bl_l_lt (by omega) (by omega) _ _ _ (fun l' a b => hl l' a (by omega)) q5
theorem bvi_p {ft tv gp : Nat → Int32} {P : PS} {gn bn : Nat → Nat} {c bs : Nat} (hf : bfix P gn bn) (hk : ∀ p, P.2.2.1 23 c ≤ p → p < P.2.2.1 23 (c + 1) → ∃ i, P.2.2.2.1 44 p = some i ∧ i < 2 + P.1 15 ∧ ∀ l, P.2.2.1 26 p ≤ l → l < P.2.2.1 26 (p + 1) → kb_l ft gp P c i l) : ∀ k p S, P.2.2.1 23 c ≤ p → p + k ≤ P.2.2.1 23 (c + 1) → bs + ow P c ≤ S.1.1 → bvi P gn bn S (ca_t (P.2.2.2.1 44) gn bn k p (0, 0)).1 (ca_t (P.2.2.2.1 44) gn bn k p (0, 0)).2 → bvi P gn bn (bl_p ft tv gp P c bs k p S) 0 0 ∧ S.1.1 ≤ (bl_p ft tv gp P c bs k p S).1.1
  | 0, p, S, _, _, _, h => ⟨h, Nat.le_refl _⟩
  | k + 1, p, S, a, b, hb, h => by
    obtain ⟨i, k1, k2, k3⟩ := hk p a (by omega)
    have e : ca_t (P.2.2.2.1 44) gn bn (k + 1) p (0, 0) = ((ca_t (P.2.2.2.1 44) gn bn k (p + 1) (0, 0)).1 + (ca_1 (P.2.2.2.1 44) gn bn p (0, 0)).1, (ca_t (P.2.2.2.1 44) gn bn k (p + 1) (0, 0)).2 + (ca_1 (P.2.2.2.1 44) gn bn p (0, 0)).2) := by
      show ca_t (P.2.2.2.1 44) gn bn k (p + 1) (ca_1 (P.2.2.2.1 44) gn bn p (0, 0)) = _
      rw [ca_t_add, Nat.add_comm, Nat.add_comm (ca_1 (P.2.2.2.1 44) gn bn p (0, 0)).2]
    rw [e] at h
    obtain ⟨r1, r2⟩ := bvi_1 (tv := tv) (ft := ft) (gp := gp) hf k1 k2 k3 hb h
    obtain ⟨s1, s2⟩ := bvi_p (tv := tv) (bs := bs) hf hk k (p + 1) (bl_1 ft tv gp P c bs p S) (by omega) (by omega) (by omega) r1
    exact ⟨s1, by show S.1.1 ≤ (bl_p ft tv gp P c bs k (p + 1) (bl_1 ft tv gp P c bs p S)).1.1; omega⟩
/-- a waiting chip is taken -/
theorem bvi_pop {P : PS} {gn bn : Nat → Nat} {S : LY} (hw : S.1.2.1 ≠ 0) (h : bvi P gn bn S 0 0) : bvi P gn bn (bl_pop S) (pgs P gn bn (S.2.2.2.1 (S.1.2.1 - 1))) (pbs P gn bn (S.2.2.2.1 (S.1.2.1 - 1))) ∧ S.2.2.2.1 (S.1.2.1 - 1) < P.1 15 ∧ S.2.2.2.2.1 (S.1.2.1 - 1) + ow P (S.2.2.2.1 (S.1.2.1 - 1)) ≤ S.1.1 := by
  obtain ⟨h1, h2, h3, h4, h5, h6, h7⟩ := h
  have h8 := h4 (S.1.2.1 - 1) (by omega)
  refine ⟨⟨?_, ?_, ?_, ?_, h5, h6, h7⟩, h8⟩
  · show S.1.1 + wsum (pbs P gn bn) S.2.2.2.1 (S.1.2.1 - 1) + pbs P gn bn (S.2.2.2.1 (S.1.2.1 - 1)) ≤ 8000
    have e : wsum (pbs P gn bn) S.2.2.2.1 S.1.2.1 = wsum (pbs P gn bn) S.2.2.2.1 (S.1.2.1 - 1) + pbs P gn bn (S.2.2.2.1 (S.1.2.1 - 1)) := by
      conv => lhs; rw [show S.1.2.1 = (S.1.2.1 - 1) + 1 by omega]
      rfl
    omega
  · show S.1.2.2 + wsum (pgs P gn bn) S.2.2.2.1 (S.1.2.1 - 1) + pgs P gn bn (S.2.2.2.1 (S.1.2.1 - 1)) ≤ 300
    have e : wsum (pgs P gn bn) S.2.2.2.1 S.1.2.1 = wsum (pgs P gn bn) S.2.2.2.1 (S.1.2.1 - 1) + pgs P gn bn (S.2.2.2.1 (S.1.2.1 - 1)) := by
      conv => lhs; rw [show S.1.2.1 = (S.1.2.1 - 1) + 1 by omega]
      rfl
    omega
  · show 2 * (S.1.2.1 - 1) ≤ S.1.1; omega
  · intro j hj; exact h4 j (by have : j < S.1.2.1 - 1 := hj; omega)
/-- what is left: bits that are not yet laid, and chips that wait -/
theorem np_ms {P : PS} {i : Nat} {S : LY} : (np (ow P) i S).1.2.1 + S.1.1 + (if 1 < i then pbn P i - 1 else pbn P i) = S.1.2.1 + (np (ow P) i S).1.1 ∨ pbn P i = 0 := by
  unfold np pbn
  by_cases h : 1 < i
  · rw [if_pos h, if_pos h, if_pos h]
    show S.1.2.1 + 1 + S.1.1 + (ow P (i - 2) - 1) = S.1.2.1 + (S.1.1 + ow P (i - 2)) ∨ _
    omega
  · rw [if_neg h, if_neg h, if_neg h]
    left
    show S.1.2.1 + S.1.1 + (if i = 0 then 3 else 2) = S.1.2.1 + (S.1.1 + (if i = 0 then 3 else 2))
    omega
theorem bl_p_ms {ft tv gp : Nat → Int32} {P : PS} {gn bn : Nat → Nat} {c bs : Nat} (hf : bfix P gn bn) (hk : ∀ p, P.2.2.1 23 c ≤ p → p < P.2.2.1 23 (c + 1) → ∃ i, P.2.2.2.1 44 p = some i ∧ i < 2 + P.1 15 ∧ ∀ l, P.2.2.1 26 p ≤ l → l < P.2.2.1 26 (p + 1) → kb_l ft gp P c i l) : ∀ k p S, P.2.2.1 23 c ≤ p → p + k ≤ P.2.2.1 23 (c + 1) → (bl_p ft tv gp P c bs k p S).1.2.1 + S.1.1 ≤ S.1.2.1 + (bl_p ft tv gp P c bs k p S).1.1
  | 0, p, S, _, _ => Nat.le_refl _
  | k + 1, p, S, a, b => by
    obtain ⟨i, k1, k2, k3⟩ := hk p a (by omega)
    have r := bl_p_ms (tv := tv) (bs := bs) hf hk k (p + 1) (bl_1 ft tv gp P c bs p S) (by omega) (by omega)
    have e1 : (bl_1 ft tv gp P c bs p S).1 = (np (ow P) i S).1 := by unfold bl_1; rw [k1]; rfl
    rw [e1] at r
    show (bl_p ft tv gp P c bs k (p + 1) (bl_1 ft tv gp P c bs p S)).1.2.1 + S.1.1 ≤ S.1.2.1 + (bl_p ft tv gp P c bs k (p + 1) (bl_1 ft tv gp P c bs p S)).1.1
    have q : pbn P i ≠ 0 := by
      unfold pbn; split
      · have := hf.2 (i - 2) (by omega); omega
      · split <;> omega
    rcases np_ms (P := P) (i := i) (S := S) with z | z
    · omega
    · exact absurd z q
