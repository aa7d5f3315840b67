/-! The signals of both sides, by paths -/
section SIG
variable {ft tv gp : Nat → Int32} {S : PS} {c0 : Nat} {b g : List Nat → Nat}
theorem arn_m : ∀ k d s j r, arn ft tv gp S c0 k s j = some r → arn ft tv gp S c0 (k + d) s j = some r
  | k, d, s, j, r, h => by
    rcases e : ast ft tv gp S c0 s j with r' | y
    · have a := arn_l (k := k) e
      rw [h] at a
      cases a
      exact arn_l e
    · cases k with
      | zero => rw [arn_0 e] at h; cases h
      | succ k =>
        rw [arn_s e] at h
        rw [show k + 1 + d = (k + d) + 1 by omega, arn_s e]
        exact arn_m k d y.1 y.2 r h
/-- where bit j at path s comes from -/
def sr_ (ft tv gp : Nat → Int32) (S : PS) (c0 : Nat) (s : List Nat) (j : Nat) : SR := (arn ft tv gp S c0 8000 s j).getD (.inl 0)
theorem sr_of {k : Nat} {s : List Nat} {j : Nat} {r : SR} (h : arn ft tv gp S c0 k s j = some r) (hk : k ≤ 8000) : sr_ ft tv gp S c0 s j = r := by
  unfold sr_
  have := arn_m k (8000 - k) s j r h
  rw [show k + (8000 - k) = 8000 by omega] at this
  rw [this]; rfl
/-- a source as the class's signal -/
def cod (fg : Nat) (g : List Nat → Nat) (r : SR) : Nat := match r with
  | .inl n => n
  | .inr s => fg + g s
theorem tyr_g {s : List Nat} (h : tyr S c0 s ≤ 1) : s ≠ [] ∧ tyl S s = tyr S c0 s := by
  unfold tyr at h ⊢
  by_cases e : s = []
  · rw [if_pos e] at h; omega
  · rw [if_neg e]; exact ⟨e, rfl⟩
theorem sg_run {Z : LZ} {fg : Nat} (h : LTF Sum.inl Sum.inr (Sum.inr 0) ft tv gp S c0 b g Z.2.1 Z.1 Z.2.2.2.2.2.2.2.2 (KGC S fg Z)) (hin : ∀ j, j < inw S (c0 + 2) → Z.2.1 j = .inr (2 + j)) (wf : WFS ft gp S) (h0 : c0 < S.1 15) : ∀ k k' s j r, k ≤ k' → vpp S (c0 + 2) s → j < pbn S (tyr S c0 s) → arn ft tv gp S c0 k s j = some r → Z.2.1 (sg_w Z.2.1 k' (b s + j)) = .inr (cod fg g r)
  | k, k', s, j, r, hk, hv, hj, hr => by
    obtain ⟨st1, st2⟩ := h.stp wf h0 hv hj
    rcases e : ast ft tv gp S c0 s j with r' | y
    · have a := arn_l (k := k) e
      rw [hr] at a
      cases a
      have fin : ∀ v, Z.2.1 (b s + j) = .inr v → Z.2.1 (sg_w Z.2.1 k' (b s + j)) = .inr v := fun v hv => by rw [sg_r hv]; exact hv
      rcases st2 r e with ⟨x1, x2, x3⟩ | ⟨x1, x2, -⟩ | ⟨z, -, x1, x2, -⟩ | ⟨x1, x2, x3⟩
      · subst x1
        rw [x3]
        refine fin _ ?_
        rw [h.1, Nat.zero_add]; exact hin j x2
      · rw [x1]; exact fin _ x2
      · rw [x1]; exact fin _ x2
      · rw [x3]
        refine fin _ ?_
        obtain ⟨y1, y2⟩ := tyr_g x1
        have K := ((h.2.2.1.1.1 s ⟨y1, hv⟩).2 (by omega)).2
        rw [x2, ← y2]; exact K.1
    · cases k with
      | zero => rw [arn_0 e] at hr; cases hr
      | succ k =>
        obtain ⟨k2, rfl⟩ : ∃ z, k' = z + 1 := ⟨k' - 1, by omega⟩
        rw [arn_s e] at hr
        obtain ⟨y1, y2, y3⟩ := st1 y e
        rw [sg_l y1]
        exact sg_run h hin wf h0 k k2 y.1 y.2 r (by omega) y2 y3 hr
/-- every bit has its source; the class finds it -/
theorem sgo_p {rk : Nat → Nat} {Z : LZ} {fg : Nat} (h : LTF Sum.inl Sum.inr (Sum.inr 0) ft tv gp S c0 b g Z.2.1 Z.1 Z.2.2.2.2.2.2.2.2 (KGC S fg Z)) (hin : ∀ j, j < inw S (c0 + 2) → Z.2.1 j = .inr (2 + j)) (wf : WFS ft gp S) (h0 : c0 < S.1 15) (ho : ∀ c, c < S.1 15 → 2 ≤ ow S c) (hz : Z.1 ≤ 8000) (hrk : ∀ c q, c < S.1 15 → ptc S c q → 1 < pty S q → rk (pty S q - 2) < rk c) {s : List Nat} {j : Nat} (hv : vpp S (c0 + 2) s) (hj : j < pbn S (tyr S c0 s)) : sgo Z.2.1 Z.1 (b s + j) = cod fg g (sr_ ft tv gp S c0 s j) := by
  have ls := h.len2 wf h0 ho hv
  by_cases hi : j < inw S (tyr S c0 s)
  · obtain ⟨k, r, t, x1, x2, x3⟩ := run_up (tv := tv) wf h0 hrk _ s j rfl hv hi
    have lt := h.len2 wf h0 ho x2
    rw [sr_of x1 (by omega)]
    exact sgo_r (sg_run h hin wf h0 k Z.1 s j r (by omega) hv hj x1)
  · by_cases hg : tyr S c0 s ≤ 1
    · have x1 : arn ft tv gp S c0 0 s j = some (.inr s) := arn_l (ast_g hi hg)
      rw [sr_of x1 (by omega)]
      exact sgo_r (sg_run h hin wf h0 0 Z.1 s j _ (by omega) hv hj x1)
    · obtain ⟨k, r, t, x1, x2, x3⟩ := run_dn (tv := tv) wf h0 hrk (rk (tyr S c0 s - 2) + 1) s (tyr S c0 s - 2) j hv (by omega) (by omega) (by rw [show tyr S c0 s - 2 + 2 = tyr S c0 s by omega]; omega)
      have lt := h.len2 wf h0 ho x2
      rw [sr_of x1 (by omega)]
      exact sgo_r (sg_run h hin wf h0 k Z.1 s j r (by omega) hv hj x1)
/-! the reference -/
/-- the bits that are a gate's, and no others, have a gate -/
def GOI (Y : LY) : Prop := ∀ x, x < Y.1.1 → Y.2.2.1 x ≠ 0 → ∃ n, n < Y.1.2.2 ∧ Y.2.2.1 x = n + 1 ∧ x = Y.2.2.2.2.2.1 n + (if Y.2.2.2.2.2.2 n = true then 1 else 2)
theorem GOI_np {i : Nat} {Y : LY} (h : GOI Y) : GOI (np (ow S) i Y) := by
  unfold np
  by_cases c : 1 < i
  · rw [if_pos c]
    intro x hx hg
    have hx : x < Y.1.1 + ow S (i - 2) := hx
    have hg : rs 0 (ow S (i - 2)) Y.1.1 Y.2.2.1 x ≠ 0 := hg
    show ∃ n, n < Y.1.2.2 ∧ rs 0 (ow S (i - 2)) Y.1.1 Y.2.2.1 x = n + 1 ∧ x = Y.2.2.2.2.2.1 n + (if Y.2.2.2.2.2.2 n = true then 1 else 2)
    rw [rs_x] at hg ⊢
    by_cases q : Y.1.1 ≤ x ∧ x < Y.1.1 + ow S (i - 2)
    · rw [if_pos q] at hg; exact absurd rfl hg
    · rw [if_neg q] at hg ⊢; exact h x (by omega) hg
  · rw [if_neg c]
    intro x hx hg
    have hx : x < Y.1.1 + (if i = 0 then 3 else 2) := hx
    have hg : va_up (rs 0 (if i = 0 then 3 else 2) Y.1.1 Y.2.2.1) (Y.1.1 + (if i = 0 then 2 else 1)) (Y.1.2.2 + 1) x ≠ 0 := hg
    show ∃ n, n < Y.1.2.2 + 1 ∧ va_up (rs 0 (if i = 0 then 3 else 2) Y.1.1 Y.2.2.1) (Y.1.1 + (if i = 0 then 2 else 1)) (Y.1.2.2 + 1) x = n + 1 ∧ x = va_up Y.2.2.2.2.2.1 Y.1.2.2 Y.1.1 n + (if va_up Y.2.2.2.2.2.2 Y.1.2.2 (decide (i = 1)) n = true then 1 else 2)
    by_cases e : x = Y.1.1 + (if i = 0 then 2 else 1)
    · refine ⟨Y.1.2.2, by omega, by rw [e]; exact va_up_self _ _ _, ?_⟩
      rw [va_up_self, va_up_self, e]
      rcases (show i = 0 ∨ i = 1 by omega) with z | z <;> subst z <;> rfl
    · rw [va_up_ne _ _ e] at hg ⊢
      rw [rs_x] at hg ⊢
      by_cases q : Y.1.1 ≤ x ∧ x < Y.1.1 + (if i = 0 then 3 else 2)
      · rw [if_pos q] at hg; exact absurd rfl hg
      · rw [if_neg q] at hg ⊢
        obtain ⟨n, n1, n2, n3⟩ := h x (by omega) hg
        refine ⟨n, by omega, n2, ?_⟩
        rw [va_up_ne _ _ (by omega), va_up_ne _ _ (by omega)]; exact n3
theorem GOI_p {c bs : Nat} : ∀ k q Y, GOI Y → GOI (bl_p ft tv gp S c bs k q Y)
  | 0, _, _, h => h
  | k + 1, q, Y, h => GOI_p k (q + 1) _ (GOI_np (i := (S.2.2.2.1 44 q).getD 0) h)
theorem GOI_all : ∀ k Y, GOI Y → GOI (bl_all ft tv gp S k Y)
  | 0, _, h => h
  | k + 1, Y, h => by
    show GOI (if Y.1.2.1 = 0 then Y else bl_all ft tv gp S k (bl_w ft tv gp S Y))
    split
    · exact h
    · exact GOI_all k _ (GOI_p _ _ _ h)
/-- a gate's out bit alone has a gate -/
theorem goi_0 {Y : LY} (h : LTF eR cR 1 ft tv gp S c0 b g Y.2.1 Y.1.1 Y.1.2.2 (KGR S Y)) (hg : GOI Y) {s : List Nat} {j : Nat} (hv : vpp S (c0 + 2) s) (hj : j < pbn S (tyr S c0 s)) (hn : ¬ (tyr S c0 s ≤ 1 ∧ j = inw S (tyr S c0 s))) : Y.2.2.1 (b s + j) = 0 := by
  by_cases e : Y.2.2.1 (b s + j) = 0
  · exact e
  exfalso
  have le := h.le hv
  obtain ⟨n, n1, n2, n3⟩ := hg (b s + j) (by omega) e
  obtain ⟨t, t1, t2, t3⟩ := h.2.2.1.1.2.2 n (Nat.zero_le _) n1
  obtain ⟨x1, x2⟩ := h.2.2.1.1.1 t t1
  obtain ⟨x3, K1, K2, K3⟩ := x2 t2
  rw [t3] at K1 K2 K3
  have iw : (if Y.2.2.2.2.2.2 n = true then 1 else 2) = inw S (tyl S t) := by
    rw [K3]
    unfold inw
    rw [if_neg (show ¬ 1 < tyl S t by omega)]
    rcases (show tyl S t = 0 ∨ tyl S t = 1 by omega) with z | z <;> rw [z] <;> rfl
  rw [K2, iw] at n3
  have iwp : inw S (tyl S t) < pbn S (tyl S t) := by rw [pbn_g S t2]; exact Nat.lt_succ_self _
  by_cases es : s = []
  · subst es
    rw [h.1] at n3
    rw [tyr_n] at hj
    have : pbn S (c0 + 2) = ow S c0 := by unfold pbn; rw [if_pos (by omega)]; rfl
    omega
  · have ty : tyr S c0 s = tyl S s := by unfold tyr; rw [if_neg es]
    rw [ty] at hj hn
    by_cases st : s = t
    · subst st
      exact hn ⟨t2, by omega⟩
    · rcases (h.2.2.1.1.2.1 s t ⟨es, hv⟩ t1 st).1 with d | d <;> omega
/-- a source as the reference finds it -/
def RV (S : PS) (c0 : Nat) (b : List Nat → Nat) (Y : LY) (r : SR) (v : Nat) : Prop := match r with
  | .inl 0 => 2 ≤ v ∧ Y.2.2.1 (v - 2) = 0 ∧ inw S (c0 + 2) ≤ v - 2 ∧ v - 2 < Y.1.1
  | .inl 1 => v = 0
  | .inl (n + 2) => v = n + 2 ∧ n < inw S (c0 + 2) ∧ Y.2.2.1 n = 0
  | .inr s => v = b s + inw S (tyl S s) + 2 ∧ vin S c0 s ∧ tyl S s ≤ 1
theorem src_run {Y : LY} (h : LTF eR cR 1 ft tv gp S c0 b g Y.2.1 Y.1.1 Y.1.2.2 (KGR S Y)) (hg : GOI Y) (hin : ∀ j, j < inw S (c0 + 2) → Y.2.1 j = 1) (wf : WFS ft gp S) (h0 : c0 < S.1 15) : ∀ k k' s j r, k + 1 ≤ k' → vpp S (c0 + 2) s → j < pbn S (tyr S c0 s) → arn ft tv gp S c0 k s j = some r → RV S c0 b Y r (src Y.2.2.1 Y.2.1 k' (b s + j + 2)) ∧ stp Y.2.2.1 Y.2.1 (src Y.2.2.1 Y.2.1 k' (b s + j + 2))
  | k, k', s, j, r, hk, hv, hj, hr => by
    obtain ⟨st1, st2⟩ := h.stp wf h0 hv hj
    have le := h.le hv
    obtain ⟨k2, rfl⟩ : ∃ z, k' = z + 1 := ⟨k' - 1, by omega⟩
    have ex : b s + j + 2 - 2 = b s + j := by omega
    have ge : s ≠ [] → ow S c0 ≤ b s := fun e => (h.2.2.1.1.1 s ⟨e, hv⟩).1.1
    have iwo : inw S (c0 + 2) ≤ ow S c0 := by have := inw_le S (c0 + 2); unfold pbn at this; rw [if_pos (by omega)] at this; exact this
    have hdead : ¬ (s = [] ∧ j < inw S (c0 + 2)) → inw S (c0 + 2) ≤ b s + j := fun z => by
      by_cases e : s = []
      · subst e; have : ¬ j < inw S (c0 + 2) := fun q => z ⟨rfl, q⟩; omega
      · have := ge e; omega
    rcases e : ast ft tv gp S c0 s j with r' | y
    · have a := arn_l (k := k) e
      rw [hr] at a
      cases a
      have dead : ¬ (s = [] ∧ j < inw S (c0 + 2)) → ¬ (tyr S c0 s ≤ 1 ∧ j = inw S (tyr S c0 s)) → Y.2.1 (b s + j) = 1 → RV S c0 b Y (.inl 0) (src Y.2.2.1 Y.2.1 (k2 + 1) (b s + j + 2)) ∧ stp Y.2.2.1 Y.2.1 (src Y.2.2.1 Y.2.1 (k2 + 1) (b s + j + 2)) := fun z1 z2 z3 => by
        have sp : stp Y.2.2.1 Y.2.1 (b s + j + 2) := Or.inr (Or.inr (by rw [ex]; exact z3))
        rw [src_stp sp]
        exact ⟨⟨by omega, by rw [ex]; exact goi_0 h hg hv hj z2, by rw [ex]; exact hdead z1, by omega⟩, sp⟩
      rcases st2 r e with ⟨x1, x2, x3⟩ | ⟨x1, x2, x3, x4⟩ | ⟨z, z1, x1, x2, x3, x4⟩ | ⟨x1, x2, x3⟩
      · subst x1
        have eb_ : b [] + j + 2 = j + 2 := by rw [h.1]; omega
        have sp : stp Y.2.2.1 Y.2.1 (b [] + j + 2) := Or.inr (Or.inr (by rw [eb_, Nat.add_sub_cancel]; exact hin j x2))
        rw [src_stp sp, x3, show 2 + j = j + 2 by omega]
        refine ⟨⟨eb_, x2, ?_⟩, sp⟩
        have := goi_0 h hg hv hj (fun z => by rw [tyr_n] at z; omega)
        rw [h.1, Nat.zero_add] at this; exact this
      · rw [x1]; exact dead x3 x4 x2
      · rcases (show z = 0 ∨ z = 1 by omega) with q | q
        · subst q
          rw [x1]; exact dead x3 x4 x2
        · subst q
          rw [x1]
          have e1 : src Y.2.2.1 Y.2.1 (k2 + 1) (b s + j + 2) = 0 := by
            show (if b s + j + 2 < 2 then b s + j + 2 else if Y.2.2.1 (b s + j + 2 - 2) = 0 then (if Y.2.1 (b s + j + 2 - 2) = 1 then b s + j + 2 else src Y.2.2.1 Y.2.1 k2 (Y.2.1 (b s + j + 2 - 2))) else b s + j + 2) = 0
            rw [if_neg (by omega), ex, goi_0 h hg hv hj x4, if_pos rfl, x2, if_neg (by decide)]
            exact src_stp (Or.inl (by decide)) k2
          rw [e1]
          exact ⟨rfl, Or.inl (by decide)⟩
      · rw [x3]
        obtain ⟨y1, y2⟩ := tyr_g x1
        have K := ((h.2.2.1.1.1 s ⟨y1, hv⟩).2 (by omega)).2
        have gb : Y.2.2.1 (b s + j) = g s + 1 := by rw [x2, ← y2]; exact K.1
        have sp : stp Y.2.2.1 Y.2.1 (b s + j + 2) := Or.inr (Or.inl (by rw [ex, gb]; omega))
        rw [src_stp sp]
        exact ⟨⟨by rw [x2, y2], ⟨y1, hv⟩, by omega⟩, sp⟩
    · cases k with
      | zero => rw [arn_0 e] at hr; cases hr
      | succ k =>
        rw [arn_s e] at hr
        obtain ⟨y1, y2, y3⟩ := st1 y e
        have ng : ¬ (tyr S c0 s ≤ 1 ∧ j = inw S (tyr S c0 s)) := fun z => by
          rw [ast_g (by omega) z.1] at e; cases e
        have e1 : src Y.2.2.1 Y.2.1 (k2 + 1) (b s + j + 2) = src Y.2.2.1 Y.2.1 k2 (b y.1 + y.2 + 2) := by
          show (if b s + j + 2 < 2 then b s + j + 2 else if Y.2.2.1 (b s + j + 2 - 2) = 0 then (if Y.2.1 (b s + j + 2 - 2) = 1 then b s + j + 2 else src Y.2.2.1 Y.2.1 k2 (Y.2.1 (b s + j + 2 - 2))) else b s + j + 2) = _
          rw [if_neg (by omega), ex, goi_0 h hg hv hj ng, if_pos rfl, y1, if_neg (by unfold eR; omega)]
          rfl
        rw [e1]
        exact src_run h hg hin wf h0 k k2 y.1 y.2 r (by omega) y2 y3 hr
theorem src_p {rk : Nat → Nat} {Y : LY} (h : LTF eR cR 1 ft tv gp S c0 b g Y.2.1 Y.1.1 Y.1.2.2 (KGR S Y)) (hg : GOI Y) (hin : ∀ j, j < inw S (c0 + 2) → Y.2.1 j = 1) (wf : WFS ft gp S) (h0 : c0 < S.1 15) (ho : ∀ c, c < S.1 15 → 2 ≤ ow S c) (hz : Y.1.1 ≤ 8000) (hrk : ∀ c q, c < S.1 15 → ptc S c q → 1 < pty S q → rk (pty S q - 2) < rk c) {s : List Nat} {j : Nat} (hv : vpp S (c0 + 2) s) (hj : j < pbn S (tyr S c0 s)) : RV S c0 b Y (sr_ ft tv gp S c0 s j) (src Y.2.2.1 Y.2.1 8001 (b s + j + 2)) ∧ stp Y.2.2.1 Y.2.1 (src Y.2.2.1 Y.2.1 8001 (b s + j + 2)) := by
  have ls := h.len2 wf h0 ho hv
  by_cases hi : j < inw S (tyr S c0 s)
  · obtain ⟨k, r, t, x1, x2, x3⟩ := run_up (tv := tv) wf h0 hrk _ s j rfl hv hi
    have lt := h.len2 wf h0 ho x2
    rw [sr_of x1 (by omega)]
    exact src_run h hg hin wf h0 k 8001 s j r (by omega) hv hj x1
  · by_cases hgt : tyr S c0 s ≤ 1
    · have x1 : arn ft tv gp S c0 0 s j = some (.inr s) := arn_l (ast_g hi hgt)
      rw [sr_of x1 (by omega)]
      exact src_run h hg hin wf h0 0 8001 s j _ (by omega) hv hj x1
    · obtain ⟨k, r, t, x1, x2, x3⟩ := run_dn (tv := tv) wf h0 hrk (rk (tyr S c0 s - 2) + 1) s (tyr S c0 s - 2) j hv (by omega) (by omega) (by rw [show tyr S c0 s - 2 + 2 = tyr S c0 s by omega]; omega)
      have lt := h.len2 wf h0 ho x2
      rw [sr_of x1 (by omega)]
      exact src_run h hg hin wf h0 k 8001 s j r (by omega) hv hj x1
end SIG
