section RPP
variable {ft tv gp : Nat → Int32} {S : PS} {c bs : Nat}
/-- the parts from q on are laid; the chips among them wait -/
theorem blp_laf (wf : WFS ft gp S) (h2 : ∀ c, c < S.1 15 → 2 ≤ ow S c) (hc : c < S.1 15) : ∀ k q Y T b0, S.2.2.1 23 c ≤ q → q + k = S.2.2.1 23 (c + 1) → bs + ow S c ≤ Y.1.1 → R1 eR 1 b0 S c bs T Y.2.1 → TQ (S.2.2.1 23 c) q T →
    ∃ b1 g1 : Nat → Nat, LAI S (vone q (q + k)) (fun s => b1 (s.headD 0)) (fun s => g1 (s.headD 0)) Y.1.1 (bl_p ft tv gp S c bs k q Y).1.1 Y.1.2.2 (bl_p ft tv gp S c bs k q Y).1.2.2 (KGR S (bl_p ft tv gp S c bs k q Y)) ∧
      R1 eR 1 (fun r => if r < q then b0 r else b1 r) S c bs (w1 ft gp S c k q T) (bl_p ft tv gp S c bs k q Y).2.1 ∧
      (∀ r, q ≤ r → r < q + k → R2 eR cR 1 S bs (pty S r) (b1 r) (tb_ ft tv gp S c r) (bl_p ft tv gp S c bs k q Y).2.1 ∧ ∀ j, inw S (pty S r) ≤ j → j < pbn S (pty S r) → (bl_p ft tv gp S c bs k q Y).2.1 (b1 r + j) = 1) ∧
      FRY (own_ S c bs) Y.1.2.1 Y (bl_p ft tv gp S c bs k q Y) ∧ STK S (bl_p ft tv gp S c bs k q Y) Y.1.2.1 (cps S k q) b1 ∧ (cps S k q).length + Y.1.1 ≤ (bl_p ft tv gp S c bs k q Y).1.1
  | 0, q, Y, T, b0, hq, hk, hb, h1, tq => by
    refine ⟨fun _ => 0, fun _ => 0, ⟨fun s hs => ?_, fun s s' hs => ?_, fun n a d => ?_⟩, h1.cg (fun _ _ _ => rfl) (fun j z e => by rw [if_pos (tq j z e).2]), fun r a d => by omega, FRY.rf, ⟨rfl, fun t r e => by cases e⟩, Nat.le_of_eq (Nat.zero_add _)⟩
    · obtain ⟨r, a, -⟩ := hs; omega
    · obtain ⟨r, a, -⟩ := hs; omega
    · have d : n < Y.1.2.2 := d
      omega
  | k + 1, q, Y, T, b0, hq, hk, hb, h1, tq => by
    obtain ⟨a1, a2, a3, a4, a5, a6, a7⟩ := bl1_laf (tv := tv) wf hc ⟨hq, by omega⟩ hb h1 tq
    have tq1 : TQ (S.2.2.1 23 c) (q + 1) (v1 ft gp S c (pty S q) q (S.2.2.1 26 (q + 1) - S.2.2.1 26 q) (S.2.2.1 26 q) T) := TQ_v1 ⟨hq, by omega⟩ _ _ _ (fun j w e => ⟨(tq j w e).1, Nat.lt_succ_of_lt (tq j w e).2⟩)
    have hiw := inw_le S (pty S q)
    have eP : bl_p ft tv gp S c bs (k + 1) q Y = bl_p ft tv gp S c bs k (q + 1) (bl_1 ft tv gp S c bs q Y) := rfl
    rw [eP]
    generalize bl_1 ft tv gp S c bs q Y = Y1 at a1 a2 a3 a4 a5 a6 a7 ⊢
    have wfq := (wf c q hc ⟨hq, by omega⟩).1
    obtain ⟨b2, g2, c1, c2, c3, c4, c5, c6⟩ := blp_laf wf h2 hc k (q + 1) Y1 _ (fun r => if r < q then b0 r else Y.1.1) (by omega) (by omega) (by omega) a2 tq1
    generalize bl_p ft tv gp S c bs k (q + 1) Y1 = Y2 at c1 c2 c3 c4 c5 c6 ⊢
    have app := LAI.app (fun s => decide (s.headD 0 = q)) a1 c1 (fun s hs => by rw [hs]; exact decide_eq_true rfl) (fun s hs => by obtain ⟨r, x1, rfl⟩ := hs; exact decide_eq_false (by show r ≠ q; omega)) ⟨a5.1.1, c4.1.1⟩ ⟨a5.1.2, c4.1.2⟩ (fun n w i n1 w1 w2 i1 hK => hK.cg c4 n1 w2 i1)
    have eV : (fun s => s = [q] ∨ vone (q + 1) (q + 1 + k) s) = vone q (q + (k + 1)) := by
      funext s
      apply propext
      constructor
      · rintro (x | ⟨r, x1, x2⟩)
        · exact ⟨q, ⟨Nat.le_refl _, by omega⟩, x⟩
        · exact ⟨r, ⟨by omega, by omega⟩, x2⟩
      · rintro ⟨r, x1, x2⟩
        by_cases z : r = q
        · exact Or.inl (z ▸ x2)
        · exact Or.inr ⟨r, ⟨by omega, by omega⟩, x2⟩
    rw [eV] at app
    have dh : ∀ r, r = q → decide (r = q) = true := fun r e => decide_eq_true e
    have dn : ∀ r, r ≠ q → ¬ decide (r = q) = true := fun r e z => e (of_decide_eq_true z)
    refine ⟨fun r => if decide (r = q) = true then Y.1.1 else b2 r, fun r => if decide (r = q) = true then Y.1.2.2 else g2 r, app, ?_, fun r r1 r2 => ?_, a5.tr c4 (fun _ _ z => z) (fun _ _ z => z) (Nat.le_refl _) (by rw [a7.1]; exact Nat.le_add_right _ _), ?_, ?_⟩
    · refine c2.cg (fun _ _ _ => rfl) (fun j z e => ?_)
      by_cases z1 : z.1 < q
      · rw [if_pos z1, if_pos (show z.1 < q + 1 by omega), if_pos z1]
      · rw [if_neg z1]
        show (if decide (z.1 = q) = true then Y.1.1 else b2 z.1) = _
        by_cases z2 : z.1 = q
        · rw [if_pos (dh _ z2), if_pos (show z.1 < q + 1 by omega), if_neg z1]
        · rw [if_neg (dn _ z2), if_neg (show ¬ z.1 < q + 1 by omega)]
    · by_cases z : r = q
      · simp only [if_pos (dh _ z)]
        subst z
        exact ⟨a3.cg (fun j j1 => c4.2.1 _ (by omega) (by unfold own_; omega)), fun j j1 j2 => by rw [c4.2.1 _ (by omega) (by unfold own_; omega)]; exact a4 j j1 j2⟩
      · simp only [if_neg (dn _ z)]; exact c3 r (by omega) (by omega)
    · have hb2 : ∀ r, r ∈ cps S k (q + 1) → (if decide (r = q) = true then Y.1.1 else b2 r) = b2 r := fun r hr => by
        have := ((cps_m k (q + 1)).mp hr).1
        rw [if_neg (dn _ (by omega))]
      by_cases e : 1 < pty S q
      · rw [if_pos e] at a7
        have ec : cps S (k + 1) q = q :: cps S k (q + 1) := if_pos e
        rw [ec]
        obtain ⟨w1, w2⟩ := a7
        obtain ⟨x1, x2⟩ := c5
        have w1 : Y1.1.2.1 = Y.1.2.1 + 1 := w1
        refine ⟨by rw [x1, w1, List.length_cons]; omega, fun t r er => ?_⟩
        rcases t with _ | t
        · have er : q = r := Option.some.inj er
          subst er
          show _ ∧ _ = (if decide (q = q) = true then Y.1.1 else b2 q)
          rw [if_pos (dh _ rfl)]
          have := w2 0 q rfl
          obtain ⟨f1, f2⟩ := c4.2.2.2.2 (Y.1.2.1 + 0) (by omega)
          rw [f1, f2]; exact this
        · have er : (cps S k (q + 1))[t]? = some r := er
          have y := x2 t r er
          show _ ∧ _ = (if decide (r = q) = true then Y.1.1 else b2 r)
          rw [hb2 r (List.mem_of_getElem? er)]
          rw [w1, show Y.1.2.1 + 1 + t = Y.1.2.1 + (t + 1) by omega] at y
          exact y
      · rw [if_neg e] at a7
        have ec : cps S (k + 1) q = cps S k (q + 1) := if_neg e
        rw [ec]
        obtain ⟨w1, -⟩ := a7
        obtain ⟨x1, x2⟩ := c5
        have w1 : Y1.1.2.1 = Y.1.2.1 := w1
        rw [w1] at x1 x2
        exact ⟨x1, fun t r er => by show _ ∧ _ = (if decide (r = q) = true then Y.1.1 else b2 r); rw [hb2 r (List.mem_of_getElem? er)]; exact x2 t r er⟩
    · show (if 1 < pty S q then q :: cps S k (q + 1) else cps S k (q + 1)).length + Y.1.1 ≤ Y2.1.1
      by_cases e : 1 < pty S q
      · rw [if_pos e, List.length_cons]
        have := h2 (pty S q - 2) (by omega)
        have po : pbn S (pty S q) = ow S (pty S q - 2) := by unfold pbn; rw [if_pos e]
        omega
      · rw [if_neg e]
        omega
end RPP
/-- a chip that waits on top is laid, with all that is in it -/
def RPOP (ft tv gp : Nat → Int32) (S : PS) (rk : Nat → Nat) (N : Nat) : Prop := ∀ (Y : LY) c bs w, Y.1.2.1 = w + 1 → Y.2.2.2.1 w = c → Y.2.2.2.2.1 w = bs → c < S.1 15 → rk c < N → bs + ow S c ≤ Y.1.1 → (∀ j, inw S (c + 2) ≤ j → j < ow S c → Y.2.1 (bs + j) = 1) →
  ∃ k Y', (∀ n, bl_all ft tv gp S (n + k) Y = bl_all ft tv gp S n Y') ∧ (Y'.1.2.1 = w ∧ k + Y.1.1 ≤ 1 + Y'.1.1) ∧ ∃ b g, LAF eR cR 1 ft tv gp S (vin S c) b g Y'.2.1 Y.1.1 Y'.1.1 Y.1.2.2 Y'.1.2.2 (KGR S Y') ∧ CHF eR cR 1 ft tv gp S c bs (fun r => b [r]) Y'.2.1 ∧ FRY (own_ S c bs) w Y Y'
theorem LAI.cons {S : PS} {r c : Nat} {b g : List Nat → Nat} {n0 n1 m0 m1 : Nat} {K : Nat → Nat → Nat → Prop} (h : LAI S (vin S c) b g n0 n1 m0 m1 K) : LAI S (fun s => ∃ t, s = r :: t ∧ vin S c t) (fun s => b s.tail) (fun s => g s.tail) n0 n1 m0 m1 K := by
  obtain ⟨a1, a2, a3⟩ := h
  refine ⟨fun s hs => ?_, fun s s' hs hs' hne => ?_, fun n na nb => ?_⟩
  · obtain ⟨t, rfl, ht⟩ := hs
    rw [tyl_c S r ht.1]
    exact a1 t ht
  · obtain ⟨t, rfl, ht⟩ := hs
    obtain ⟨t', rfl, ht'⟩ := hs'
    rw [tyl_c S r ht.1, tyl_c S r ht'.1]
    exact a2 t t' ht ht' (fun e => hne (by rw [e]))
  · obtain ⟨s, s1, s2, s3⟩ := a3 n na nb
    exact ⟨r :: s, ⟨s, rfl, s1⟩, by rw [tyl_c S r s1.1]; exact s2, s3⟩
theorem snoc_ex {α : Type} : ∀ (l : List α) n, l.length = n + 1 → ∃ l' a, l = l' ++ [a]
  | [], n, h => by cases h
  | [a], n, h => ⟨[], a, rfl⟩
  | a :: b :: l, 0, h => by cases h
  | a :: b :: l, n + 1, h => by
    obtain ⟨l', x, e⟩ := snoc_ex (b :: l) n (Nat.succ.inj h)
    exact ⟨a :: l', x, by rw [e]; rfl⟩
/-- the paths within the chips ps -/
def vwi (S : PS) (ps : List Nat) (s : List Nat) : Prop := ∃ r, r ∈ ps ∧ ∃ t, s = r :: t ∧ vin S (pty S r - 2) t
theorem LAW.cg {X : Type} {eb ec : Nat → X} {e0 : X} {ft tv gp : Nat → Int32} {S : PS} {W : List Nat → Prop} {b : List Nat → Nat} {fr fr' : Nat → X} {n0 n1 : Nat} (h : LAW eb ec e0 ft tv gp S W b fr) (hw : ∀ s, W s → n0 ≤ b s ∧ b s + pbn S (tyl S s) ≤ n1) (hc : ∀ s c q, W s → tyl S s = c + 2 → ptc S c q → W (s ++ [q])) (hf : ∀ x, n0 ≤ x → x < n1 → fr' x = fr x) : LAW eb ec e0 ft tv gp S W b fr' := fun s hs c t => by
  have x1 := hw s hs
  have ow_ : pbn S (tyl S s) = ow S c := by rw [t]; unfold pbn; rw [if_pos (by omega)]; rfl
  refine (h s hs c t).cg (fun j j1 j2 => hf _ (by omega) (by omega)) (fun q hq j j1 => ?_) (fun q hq => rfl)
  have k1 := hw _ (hc s c q hs t hq)
  rw [tyl_s] at k1
  have := inw_le S (pty S q)
  exact hf _ (by omega) (by omega)
theorem vin_ch {S : PS} {c c' q : Nat} {s : List Nat} (h : vin S c s) (e : tyl S s = c' + 2) (hq : ptc S c' q) : vin S c (s ++ [q]) := ⟨by simp, vpp_ch hq s _ h.2 (by rw [if_neg h.1]; exact e)⟩
/-- all chips that wait above w are laid -/
theorem pend_laf {ft tv gp : Nat → Int32} {S : PS} {rk : Nat → Nat} {N : Nat} (hp : RPOP ft tv gp S rk N) : ∀ m (ps : List Nat) (Y : LY) w b1, ps.length = m → STK S Y w ps b1 → ps.Nodup → (∀ r, r ∈ ps → 1 < pty S r ∧ pty S r - 2 < S.1 15 ∧ rk (pty S r - 2) < N ∧ b1 r + pbn S (pty S r) ≤ Y.1.1 ∧ ∀ j, inw S (pty S r) ≤ j → j < pbn S (pty S r) → Y.2.1 (b1 r + j) = 1) → (∀ r r', r ∈ ps → r' ∈ ps → r ≠ r' → b1 r + pbn S (pty S r) ≤ b1 r' ∨ b1 r' + pbn S (pty S r') ≤ b1 r) →
    ∃ k Y', (∀ n, bl_all ft tv gp S (n + k) Y = bl_all ft tv gp S n Y') ∧ (Y'.1.2.1 = w ∧ k + Y.1.1 ≤ ps.length + Y'.1.1) ∧ ∃ bb gg : Nat → List Nat → Nat, LAI S (vwi S ps) (fun s => bb (s.headD 0) s.tail) (fun s => gg (s.headD 0) s.tail) Y.1.1 Y'.1.1 Y.1.2.2 Y'.1.2.2 (KGR S Y') ∧ (∀ r, r ∈ ps → CHF eR cR 1 ft tv gp S (pty S r - 2) (b1 r) (fun q => bb r [q]) Y'.2.1 ∧ LAW eR cR 1 ft tv gp S (vin S (pty S r - 2)) (bb r) Y'.2.1) ∧ FRY (fun x => ∃ r, r ∈ ps ∧ own_ S (pty S r - 2) (b1 r) x) w Y Y'
  | 0, ps, Y, w, b1, hl, hs, hnd, hr, hd => by
    have e : ps = [] := List.eq_nil_of_length_eq_zero hl
    subst e
    refine ⟨0, Y, fun n => rfl, ⟨hs.1, Nat.le_refl _⟩, fun _ _ => 0, fun _ _ => 0, ⟨fun s h => ?_, fun s s' h => ?_, fun n a d => by omega⟩, fun r h => (by cases h), FRY.rf⟩
    · obtain ⟨r, h, -⟩ := h; cases h
    · obtain ⟨r, h, -⟩ := h; cases h
  | m + 1, ps, Y, w, b1, hl, hs, hnd, hr, hd => by
    obtain ⟨ps', r, rfl⟩ := snoc_ex ps m hl
    rw [List.length_append, List.length_singleton] at hl
    have rm : r ∈ ps' ++ [r] := List.mem_append_right _ (List.mem_singleton.mpr rfl)
    have pm : ∀ z, z ∈ ps' → z ∈ ps' ++ [r] := fun z h => List.mem_append_left _ h
    obtain ⟨r1, r2, r3, r4, r5⟩ := hr r rm
    have nr : ∀ z, z ∈ ps' → z ≠ r := fun z h e => by
      rw [List.nodup_append] at hnd
      exact hnd.2.2 z h r (List.mem_singleton.mpr rfl) e
    have pi : pty S r - 2 + 2 = pty S r := by omega
    have po : ∀ z, 1 < pty S z → pbn S (pty S z) = ow S (pty S z - 2) := fun z h => by unfold pbn; rw [if_pos h]
    have h1 : Y.1.2.1 = w + ps'.length + 1 := by rw [hs.1, List.length_append, List.length_singleton]; omega
    obtain ⟨t1, t2⟩ := hs.2 ps'.length r (by rw [List.getElem?_append_right (Nat.le_refl _), Nat.sub_self]; rfl)
    obtain ⟨k1, Y1, s1, ⟨s2, s3⟩, b, g, a1, a2, a3⟩ := hp Y (pty S r - 2) (b1 r) (w + ps'.length) h1 t1 t2 r2 r3 (by rw [← po r r1]; exact r4) (fun j j1 j2 => r5 j (by rw [pi] at j1; exact j1) (by rw [po r r1]; exact j2))
    have hs' : STK S Y1 w ps' b1 := ⟨s2, fun t z e => by
      have lt : t < ps'.length := by
        by_cases q : t < ps'.length
        · exact q
        · rw [List.getElem?_eq_none (by omega)] at e; cases e
      obtain ⟨f1, f2⟩ := a3.2.2.2.2 (w + t) (by omega)
      rw [f1, f2]
      exact hs.2 t z (by rw [List.getElem?_append_left lt]; exact e)⟩
    have no : ∀ z, z ∈ ps' → ∀ x, b1 z ≤ x → x < b1 z + pbn S (pty S z) → ¬ own_ S (pty S r - 2) (b1 r) x := fun z hz x x1 x2 ho => by
      have d := hd z r (pm z hz) rm (nr z hz)
      obtain ⟨o1, o2⟩ := ho
      rw [← po r r1] at o2
      rcases d with d | d <;> omega
    obtain ⟨k2, Y2, u1, ⟨u2, u3⟩, bb, gg, c1, c2, c3⟩ := pend_laf hp m ps' Y1 w b1 (by omega) hs' (List.nodup_append.mp hnd).1 (fun z hz => by
      obtain ⟨y1, y2, y3, y4, y5⟩ := hr z (pm z hz)
      refine ⟨y1, y2, y3, by have := a3.1.1; omega, fun j j1 j2 => ?_⟩
      rw [a3.2.1 _ (by omega) (no z hz _ (by omega) (by omega))]
      exact y5 j j1 j2) (fun z z' hz hz' => hd z z' (pm z hz) (pm z' hz'))
    have keep : ∀ x, x < Y1.1.1 → (Y.1.1 ≤ x ∨ (b1 r ≤ x ∧ x < b1 r + pbn S (pty S r))) → Y2.2.1 x = Y1.2.1 x := fun x x1 x2 => c3.2.1 x x1 (fun ⟨z, hz, o1, o2⟩ => by
      have y := hr z (pm z hz)
      rw [← po z y.1] at o2
      have := y.2.2.2.1
      rcases x2 with x2 | x2
      · omega
      · rcases hd z r (pm z hz) rm (nr z hz) with d | d <;> omega)
    have app := LAI.app (fun s => decide (s.headD 0 = r)) (a1.1.cons (r := r)) c1 (fun s hs => by obtain ⟨t, rfl, -⟩ := hs; exact decide_eq_true rfl) (fun s hs => by obtain ⟨z, hz, t, rfl, -⟩ := hs; exact decide_eq_false (nr z hz)) ⟨a3.1.1, c3.1.1⟩ ⟨a3.1.2, c3.1.2⟩ (fun n w i n1 w1 w2 i1 hK => hK.cg c3 n1 w2 i1)
    have eV : (fun s => (∃ t, s = r :: t ∧ vin S (pty S r - 2) t) ∨ vwi S ps' s) = vwi S (ps' ++ [r]) := by
      funext s
      apply propext
      constructor
      · rintro (⟨t, e, h⟩ | ⟨z, hz, h⟩)
        · exact ⟨r, rm, t, e, h⟩
        · exact ⟨z, pm z hz, h⟩
      · rintro ⟨z, hz, h⟩
        rcases List.mem_append.mp hz with q | q
        · exact Or.inr ⟨z, q, h⟩
        · have := List.mem_singleton.mp q
          subst this
          exact Or.inl h
    rw [eV] at app
    refine ⟨k2 + k1, Y2, fun n => by rw [← Nat.add_assoc, s1, u1], ⟨u2, by rw [List.length_append, List.length_singleton]; omega⟩, fun z t => if decide (z = r) = true then b t else bb z t, fun z t => if decide (z = r) = true then g t else gg z t, app, fun z hz => ?_, ?_⟩
    · by_cases q : z = r
      · subst q
        have e1 : (fun t => if decide (z = z) = true then b t else bb z t) = b := by funext t; rw [if_pos (decide_eq_true rfl)]
        have e2 : (fun q => if decide (z = z) = true then b [q] else bb z [q]) = fun q => b [q] := by funext t; rw [if_pos (decide_eq_true rfl)]
        simp only [decide_true, if_true]
        refine ⟨a2.cg (fun j j1 j2 => keep _ (by rw [← po z r1] at j2; have := a3.1.1; omega) (Or.inr ⟨by omega, by rw [po z r1]; omega⟩)) (fun q hq j j1 => ?_) (fun _ _ => rfl), ?_⟩
        · have k := (a1.1.1 [q] ⟨by simp, by omega, by rw [show pty S z - 2 + 2 - 2 = pty S z - 2 by omega]; exact hq, trivial⟩).1
          rw [tyl_1] at k
          have := inw_le S (pty S q)
          exact keep _ (by omega) (Or.inl (by omega))
        · exact LAW.cg a1.2 (fun s hs => (a1.1.1 s hs).1) (fun s c' q hs t hq => vin_ch hs t hq) (fun x x1 x2 => keep x x2 (Or.inl x1))
      · have hz' : z ∈ ps' := by
          rcases List.mem_append.mp hz with w | w
          · exact w
          · exact absurd (List.mem_singleton.mp w) q
        have dn : ¬ decide (z = r) = true := fun e => q (of_decide_eq_true e)
        simp only [if_neg dn]
        exact c2 z hz'
    · refine a3.tr c3 (fun x _ h => ⟨r, rm, h⟩) (fun x _ ⟨z, hz, h⟩ => ⟨z, pm z hz, h⟩) (by omega) (Nat.le_refl _)
theorem rpop_all {ft tv gp : Nat → Int32} {S : PS} {rk : Nat → Nat} (wf : WFS ft gp S) (h2 : ∀ c, c < S.1 15 → 2 ≤ ow S c) (m23 : ∀ c, c < S.1 15 → S.2.2.1 23 c ≤ S.2.2.1 23 (c + 1)) (hrk : ∀ c q, c < S.1 15 → ptc S c q → 1 < pty S q → rk (pty S q - 2) < rk c) : ∀ N, RPOP ft tv gp S rk N
  | 0 => fun Y c bs w _ _ _ _ h _ _ => by omega
  | N + 1 => fun Y c bs w hw hwc hwb hc hr hb h0 => by
    have m := m23 c hc
    have e0 : ∀ n, bl_all ft tv gp S (n + 1) Y = bl_all ft tv gp S n (bl_w ft tv gp S Y) := fun n => by
      show (if Y.1.2.1 = 0 then Y else bl_all ft tv gp S n (bl_w ft tv gp S Y)) = _
      rw [if_neg (by omega)]
    have ew : bl_w ft tv gp S Y = bl_p ft tv gp S c bs (S.2.2.1 23 (c + 1) - S.2.2.1 23 c) (S.2.2.1 23 c) (bl_pop Y) := by
      unfold bl_w
      rw [show Y.1.2.1 - 1 = w by omega, hwc, hwb]
    have pw : (bl_pop Y).1.2.1 = w := by show Y.1.2.1 - 1 = w; omega
    obtain ⟨b1, g1, a1, a2, a3, a4, a5, a6⟩ := blp_laf (ft := ft) (tv := tv) (gp := gp) (bs := bs) wf h2 hc (S.2.2.1 23 (c + 1) - S.2.2.1 23 c) (S.2.2.1 23 c) (bl_pop Y) (fun _ => none) (fun _ => 0) (Nat.le_refl _) (by omega) hb (fun j j1 j2 => h0 j j1 j2) (fun j z e => by cases e)
    rw [← ew] at a1 a2 a3 a4 a5 a6
    rw [pw] at a4 a5
    have eE : S.2.2.1 23 c + (S.2.2.1 23 (c + 1) - S.2.2.1 23 c) = S.2.2.1 23 (c + 1) := by omega
    rw [eE] at a1 a3
    generalize bl_w ft tv gp S Y = Y1 at e0 a1 a2 a3 a4 a5 a6
    have cm : ∀ r, r ∈ cps S (S.2.2.1 23 (c + 1) - S.2.2.1 23 c) (S.2.2.1 23 c) ↔ ptc S c r ∧ 1 < pty S r := fun r => by
      rw [cps_m, eE]; exact Iff.rfl
    have hY : (bl_pop Y).1.1 = Y.1.1 := rfl
    have bi : ∀ r, ptc S c r → Y.1.1 ≤ b1 r ∧ b1 r + pbn S (pty S r) ≤ Y1.1.1 := fun r hr => by
      have := (a1.1 [r] ⟨r, hr, rfl⟩).1
      rw [tyl_1] at this; exact this
    have bd : ∀ r r', ptc S c r → ptc S c r' → r ≠ r' → b1 r + pbn S (pty S r) ≤ b1 r' ∨ b1 r' + pbn S (pty S r') ≤ b1 r := fun r r' hr hr' ne => by
      have := (a1.2.1 [r] [r'] ⟨r, hr, rfl⟩ ⟨r', hr', rfl⟩ (fun e => ne (by cases e; rfl))).1
      rw [tyl_1, tyl_1] at this; exact this
    obtain ⟨k2, Y2, u1, ⟨u2, u3⟩, bb, gg, c1, c2, c3⟩ := pend_laf (rpop_all wf h2 m23 hrk N) _ (cps S (S.2.2.1 23 (c + 1) - S.2.2.1 23 c) (S.2.2.1 23 c)) Y1 w b1 rfl a5 (cps_nd _ _) (fun r hr' => by
      obtain ⟨x1, x2⟩ := (cm r).mp hr'
      have := (wf c r hc x1).1
      have := hrk c r hc x1 x2
      exact ⟨x2, by omega, by omega, (bi r x1).2, (a3 r x1.1 x1.2).2⟩) (fun r r' hr hr' => bd r r' ((cm r).mp hr).1 ((cm r').mp hr').1)
    have po : ∀ z, 1 < pty S z → pbn S (pty S z) = ow S (pty S z - 2) := fun z h => by unfold pbn; rw [if_pos h]
    have pi : ∀ z, 1 < pty S z → pty S z - 2 + 2 = pty S z := fun z h => by omega
    have app := LAI.app (fun s => s.tail.isEmpty) a1 c1 (fun s hs => by obtain ⟨r, -, rfl⟩ := hs; rfl) (fun s hs => by
      obtain ⟨z, hz, t, rfl, h1, -⟩ := hs
      show t.isEmpty = false
      rcases t with _ | ⟨a, t⟩
      · exact absurd rfl h1
      · rfl) ⟨a4.1.1, c3.1.1⟩ ⟨a4.1.2, c3.1.2⟩ (fun n w i n1 w1 w2 i1 hK => hK.cg c3 n1 w2 i1)
    have eV : (fun s => vone (S.2.2.1 23 c) (S.2.2.1 23 (c + 1)) s ∨ vwi S (cps S (S.2.2.1 23 (c + 1) - S.2.2.1 23 c) (S.2.2.1 23 c)) s) = vin S c := by
      funext s
      apply propext
      constructor
      · rintro (⟨r, x1, rfl⟩ | ⟨r, hr, t, rfl, h1, h2⟩)
        · exact ⟨by simp, by omega, x1, trivial⟩
        · obtain ⟨x1, x2⟩ := (cm r).mp hr
          rw [pi r x2] at h2
          exact ⟨by simp, by omega, x1, h2⟩
      · rintro ⟨h1, h2⟩
        rcases s with _ | ⟨r, t⟩
        · exact absurd rfl h1
        · obtain ⟨-, x1, x2⟩ := h2
          by_cases z : t = []
          · subst z; exact Or.inl ⟨r, x1, rfl⟩
          · have x3 : 1 < pty S r := by
              rcases t with _ | ⟨a, t⟩
              · exact absurd rfl z
              · exact x2.1
            exact Or.inr ⟨r, (cm r).mpr ⟨x1, x3⟩, t, rfl, z, by rw [pi r x3]; exact x2⟩
    rw [eV] at app
    have keep : ∀ x, x < Y1.1.1 → (∀ z, ptc S c z → 1 < pty S z → ¬ (b1 z + inw S (pty S z) ≤ x ∧ x < b1 z + pbn S (pty S z))) → Y2.2.1 x = Y1.2.1 x := fun x x1 x2 => c3.2.1 x x1 (fun ⟨z, hz, o1, o2⟩ => by
      obtain ⟨y1, y2⟩ := (cm z).mp hz
      rw [pi z y2] at o1
      rw [← po z y2] at o2
      exact x2 z y1 y2 ⟨o1, o2⟩)
    refine ⟨k2 + 1, Y2, fun n => by rw [← Nat.add_assoc, e0, u1], ⟨u2, by rw [hY] at a6; omega⟩, _, _, ⟨app, fun s hs c' t => ?_⟩, ⟨?_, fun q hq => ?_⟩, ?_⟩
    · rcases s with _ | ⟨r, t'⟩
      · exact absurd rfl hs.1
      obtain ⟨-, -, x1, x2⟩ := hs
      by_cases z : t' = []
      · subst z
        rw [tyl_1] at t
        have x3 : 1 < pty S r := by omega
        have := (c2 r ((cm r).mpr ⟨x1, x3⟩)).1
        rw [show pty S r - 2 = c' by omega] at this
        exact this
      · have x3 : 1 < pty S r := by
          rcases t' with _ | ⟨a, t'⟩
          · exact absurd rfl z
          · exact x2.1
        rw [tyl_c S r z] at t
        have := (c2 r ((cm r).mpr ⟨x1, x3⟩)).2 t' ⟨z, by rw [pi r x3]; exact x2⟩ c' t
        have e1 : t'.isEmpty = false := by
          rcases t' with _ | ⟨a, t'⟩
          · exact absurd rfl z
          · rfl
        show CHF eR cR 1 ft tv gp S c' (if t'.isEmpty = true then b1 r else bb r t') (fun q => if (t' ++ [q]).isEmpty = true then b1 r else bb r (t' ++ [q])) Y2.2.1
        rw [e1, if_neg (by decide)]
        refine this.cg (fun _ _ _ => rfl) (fun _ _ _ _ => rfl) (fun q _ => ?_)
        rw [if_neg (by cases t' <;> simp)]
    · refine a2.cg (fun j j1 j2 => keep _ (by have := a4.1.1; omega) (fun z z1 z2 z3 => by have := (bi z z1).1; omega)) (fun j z e => ?_)
      have tq := TQ_ta (ft := ft) (gp := gp) (S := S) c j z e
      show b1 z.1 = if z.1 < S.2.2.1 23 c then 0 else b1 z.1
      rw [if_neg (by omega)]
    · have hi := inw_le S (pty S q)
      have b := bi q hq
      refine ⟨by show bs + ow S c ≤ b1 q; omega, (a3 q hq.1 hq.2).1.cg (fun j j1 => keep _ (by omega) (fun z z1 z2 z3 => ?_))⟩
      by_cases e : z = q
      · subst e; omega
      · rcases bd z q z1 hq e with d | d <;> omega
    · refine FRY.tr (Y1 := Y1) (own := own_ S c bs) (w := w) ?_ c3 (fun _ _ h => h) (fun x hx ⟨z, hz, o1, o2⟩ => ?_) (Nat.le_refl _) (Nat.le_refl _)
      · exact ⟨a4.1, a4.2.1, a4.2.2.1, a4.2.2.2.1, a4.2.2.2.2⟩
      · obtain ⟨y1, y2⟩ := (cm z).mp hz
        have := (bi z y1).1
        omega
