/-! The reference's layout, by paths -/
def eR (n : Nat) : Nat := n + 2
def cR (z : Nat) : Nat := if z = 1 then 0 else 1
theorem rs_x (v : Nat) : ∀ n i f x, rs v n i f x = if i ≤ x ∧ x < i + n then v else f x
  | 0, i, f, x => by rw [if_neg (by omega)]; rfl
  | n + 1, i, f, x => by
    show rs v n (i + 1) (va_up f i v) x = _
    rw [rs_x v n (i + 1)]
    by_cases e : x = i
    · rw [if_neg (by omega), if_pos (by omega), e, va_up_self]
    · rw [va_up_ne _ _ e]
      by_cases q : i ≤ x ∧ x < i + (n + 1)
      · rw [if_pos q, if_pos (by omega)]
      · rw [if_neg q, if_neg (by omega)]
theorem cn_lw {io cb : Bool} {z y lf rt rt' : Nat} (hz : cR y = z) (hio : io = true → cb = false) (hr : cb = false → rt = rt') : ∀ n k fr, cn io cb z lf rt n k fr = lw eR cR io cb y lf rt' n k fr
  | 0, _, _ => rfl
  | n + 1, k, fr => by
    show cn io cb z lf rt n (k + 1) (cn1 io cb z lf rt k fr) = lw eR cR io cb y lf rt' n (k + 1) _
    rw [cn_lw hz hio hr n (k + 1)]
    congr 1
    unfold cn1
    rcases io with _ | _
    · rcases cb with _ | _
      · rw [if_neg (by decide), if_neg (by decide), if_neg (by decide), if_neg (by decide), hr rfl]; rfl
      · rw [if_neg (by decide), if_pos rfl, if_neg (by decide), if_pos rfl, hz]
    · have c := hio rfl
      subst c
      rw [if_pos rfl, if_pos rfl, hr rfl]; rfl
theorem qc_lnw {ft tv gp : Nat → Int32} {S : PS} {c bs i pb l : Nat} {fr : Nat → Nat} (wf : lwf ft gp S c i l) : q_conn ft tv S c bs i pb l ((q_pin ft gp S i (S.2.2.1 28 l)).getD 0) fr = lnw eR cR ft tv gp S c bs i pb l fr := by
  unfold q_conn lnw
  rw [show q_lf S i ((q_pin ft gp S i (S.2.2.1 28 l)).getD 0) pb l = pb + llf ft gp S i l from q_lf_0 S i _ pb l]
  refine cn_lw ?_ (fun e => (wf.1 e).1) (fun e => ?_) _ _ _
  · unfold cR q_cz q_tz
    by_cases z : tv (S.2.2.1 32 l) = nI 4
    · rw [if_pos z, if_pos z, if_pos rfl]
    · rw [if_neg z, if_neg z, if_neg (by decide)]
  · have k7 : S.2.2.1 7 (S.2.2.1 32 l) = 1 := by
      unfold q_cb at e
      by_cases k : S.2.2.1 7 (S.2.2.1 32 l) = 1
      · exact k
      · rw [decide_eq_false k] at e; cases e
    exact q_rt_0 ft S c bs l k7
theorem bl_lns {ft tv gp : Nat → Int32} {S : PS} {c bs i pb : Nat} : ∀ k l fr, (∀ l', l ≤ l' → l' < l + k → lwf ft gp S c i l') → bl_l ft tv gp S c bs i pb k l fr = lns eR cR ft tv gp S c bs i pb k l fr
  | 0, _, _, _ => rfl
  | k + 1, l, fr, wf => by
    show bl_l ft tv gp S c bs i pb k (l + 1) (q_conn ft tv S c bs i pb l ((q_pin ft gp S i (S.2.2.1 28 l)).getD 0) fr) = lns eR cR ft tv gp S c bs i pb k (l + 1) (lnw eR cR ft tv gp S c bs i pb l fr)
    rw [qc_lnw (wf l (Nat.le_refl _) (by omega))]
    exact bl_lns k (l + 1) _ (fun l' x y => wf l' (by omega) (by omega))
/-- what the reference's rows tell of gate n with its bits from w on -/
def KGR (S : PS) (Y : LY) (n w i : Nat) : Prop := Y.2.2.1 (w + inw S i) = n + 1 ∧ Y.2.2.2.2.2.1 n = w ∧ Y.2.2.2.2.2.2 n = decide (i = 1)
/-- what is left alone: all bits but those of own, gates, and the w chips that wait lowest -/
def FRY (own : Nat → Prop) (w : Nat) (Y Y' : LY) : Prop := (Y.1.1 ≤ Y'.1.1 ∧ Y.1.2.2 ≤ Y'.1.2.2) ∧ (∀ x, x < Y.1.1 → ¬ own x → Y'.2.1 x = Y.2.1 x) ∧ (∀ x, x < Y.1.1 → Y'.2.2.1 x = Y.2.2.1 x) ∧ (∀ n, n < Y.1.2.2 → Y'.2.2.2.2.2.1 n = Y.2.2.2.2.2.1 n ∧ Y'.2.2.2.2.2.2 n = Y.2.2.2.2.2.2 n) ∧ ∀ t, t < w → Y'.2.2.2.1 t = Y.2.2.2.1 t ∧ Y'.2.2.2.2.1 t = Y.2.2.2.2.1 t
theorem FRY.rf {own : Nat → Prop} {w : Nat} {Y : LY} : FRY own w Y Y := ⟨⟨Nat.le_refl _, Nat.le_refl _⟩, fun _ _ _ => rfl, fun _ _ => rfl, fun _ _ => ⟨rfl, rfl⟩, fun _ _ => ⟨rfl, rfl⟩⟩
theorem FRY.tr {own own2 own' : Nat → Prop} {w w2 w' : Nat} {Y Y1 Y2 : LY} (h : FRY own w Y Y1) (g : FRY own2 w2 Y1 Y2) (ho : ∀ x, x < Y.1.1 → own x → own' x) (ho2 : ∀ x, x < Y.1.1 → own2 x → own' x) (hw : w' ≤ w) (hw2 : w' ≤ w2) : FRY own' w' Y Y2 := by
  obtain ⟨⟨h1, h1'⟩, h2, h3, h4, h5⟩ := h
  obtain ⟨⟨g1, g1'⟩, g2, g3, g4, g5⟩ := g
  refine ⟨⟨by omega, by omega⟩, fun x a d => (g2 x (by omega) (fun z => d (ho2 x a z))).trans (h2 x a (fun z => d (ho x a z))), fun x a => (g3 x (by omega)).trans (h3 x a), fun n a => ?_, fun t a => ?_⟩
  · obtain ⟨x1, x2⟩ := g4 n (by omega)
    obtain ⟨y1, y2⟩ := h4 n a
    exact ⟨x1.trans y1, x2.trans y2⟩
  · obtain ⟨x1, x2⟩ := g5 t (by omega)
    obtain ⟨y1, y2⟩ := h5 t (by omega)
    exact ⟨x1.trans y1, x2.trans y2⟩
theorem KGR.cg {S : PS} {own : Nat → Prop} {w0 : Nat} {Y Y' : LY} {n w i : Nat} (h : KGR S Y n w i) (f : FRY own w0 Y Y') (hn : n < Y.1.2.2) (hw2 : w + pbn S i ≤ Y.1.1) (hi : i ≤ 1) : KGR S Y' n w i := by
  have e : inw S i < pbn S i := by
    have z : ¬ 1 < i := by omega
    unfold inw pbn; rw [if_neg z, if_neg z]; split <;> omega
  obtain ⟨h1, h2, h3⟩ := h
  obtain ⟨-, -, f3, f4, -⟩ := f
  obtain ⟨x1, x2⟩ := f4 n hn
  exact ⟨by rw [f3 _ (by omega)]; exact h1, by rw [x1]; exact h2, by rw [x2]; exact h3⟩
/-- a chip's own bits behind its IN pins -/
def own_ (S : PS) (c bs : Nat) (x : Nat) : Prop := bs + inw S (c + 2) ≤ x ∧ x < bs + ow S c
/-- the chips among the parts from q on -/
def cps (S : PS) : Nat → Nat → List Nat
  | 0, _ => []
  | k + 1, q => if 1 < pty S q then q :: cps S k (q + 1) else cps S k (q + 1)
theorem cps_m {S : PS} {r : Nat} : ∀ k q, r ∈ cps S k q ↔ (q ≤ r ∧ r < q + k) ∧ 1 < pty S r
  | 0, q => ⟨fun h => (by cases h), fun h => (by omega)⟩
  | k + 1, q => by
    show r ∈ (if 1 < pty S q then q :: cps S k (q + 1) else cps S k (q + 1)) ↔ _
    by_cases e : 1 < pty S q
    · rw [if_pos e, List.mem_cons, cps_m k (q + 1)]
      constructor
      · rintro (h | h)
        · subst h; exact ⟨⟨Nat.le_refl _, by omega⟩, e⟩
        · exact ⟨⟨by omega, by omega⟩, h.2⟩
      · intro h
        by_cases z : r = q
        · exact Or.inl z
        · exact Or.inr ⟨⟨by omega, by omega⟩, h.2⟩
    · rw [if_neg e, cps_m k (q + 1)]
      constructor
      · intro h; exact ⟨⟨by omega, by omega⟩, h.2⟩
      · intro h
        have z : r ≠ q := fun z => e (z ▸ h.2)
        exact ⟨⟨by omega, by omega⟩, h.2⟩
theorem cps_nd {S : PS} : ∀ k q, (cps S k q).Nodup
  | 0, _ => List.nodup_nil
  | k + 1, q => by
    show (if 1 < pty S q then q :: cps S k (q + 1) else cps S k (q + 1)).Nodup
    split
    · refine List.nodup_cons.mpr ⟨fun h => ?_, cps_nd k (q + 1)⟩
      have := ((cps_m k (q + 1)).mp h).1; omega
    · exact cps_nd k (q + 1)
/-- the stack: above w0 the chips ps wait, at their bases -/
def STK (S : PS) (Y : LY) (w0 : Nat) (ps : List Nat) (b : Nat → Nat) : Prop := Y.1.2.1 = w0 + ps.length ∧ ∀ t r, ps[t]? = some r → Y.2.2.2.1 (w0 + t) = pty S r - 2 ∧ Y.2.2.2.2.1 (w0 + t) = b r
/-- the paths of one part alone -/
def vone (a z : Nat) (s : List Nat) : Prop := ∃ r, (a ≤ r ∧ r < z) ∧ s = [r]
section RPH
variable {ft tv gp : Nat → Int32} {S : PS} {c bs : Nat}
/-- one part is laid, and its links are tied -/
theorem bl1_laf (wf : WFS ft gp S) {q : Nat} {Y : LY} {T : TA} {b0 : Nat → Nat} (hc : c < S.1 15) (hq : ptc S c q) (hb : bs + ow S c ≤ Y.1.1) (h1 : R1 eR 1 b0 S c bs T Y.2.1) (tq : TQ (S.2.2.1 23 c) q T) :
    LAI S (fun s => s = [q]) (fun _ => Y.1.1) (fun _ => Y.1.2.2) Y.1.1 (bl_1 ft tv gp S c bs q Y).1.1 Y.1.2.2 (bl_1 ft tv gp S c bs q Y).1.2.2 (KGR S (bl_1 ft tv gp S c bs q Y)) ∧
      R1 eR 1 (fun r => if r < q then b0 r else Y.1.1) S c bs (v1 ft gp S c (pty S q) q (S.2.2.1 26 (q + 1) - S.2.2.1 26 q) (S.2.2.1 26 q) T) (bl_1 ft tv gp S c bs q Y).2.1 ∧
      R2 eR cR 1 S bs (pty S q) Y.1.1 (tb_ ft tv gp S c q) (bl_1 ft tv gp S c bs q Y).2.1 ∧
      (∀ j, inw S (pty S q) ≤ j → j < pbn S (pty S q) → (bl_1 ft tv gp S c bs q Y).2.1 (Y.1.1 + j) = 1) ∧
      FRY (own_ S c bs) Y.1.2.1 Y (bl_1 ft tv gp S c bs q Y) ∧ (bl_1 ft tv gp S c bs q Y).1.1 = Y.1.1 + pbn S (pty S q) ∧
      STK S (bl_1 ft tv gp S c bs q Y) Y.1.2.1 (if 1 < pty S q then [q] else []) (fun _ => Y.1.1) := by
  obtain ⟨wf1, wf2⟩ := wf c q hc hq
  have hiw := inw_le S (pty S q)
  have eN : (np (ow S) (pty S q) Y).1.1 = Y.1.1 + pbn S (pty S q) ∧ (∀ x, (np (ow S) (pty S q) Y).2.1 x = if Y.1.1 ≤ x ∧ x < Y.1.1 + pbn S (pty S q) then 1 else Y.2.1 x) := by
    unfold np pbn
    by_cases c1 : 1 < pty S q
    · rw [if_pos c1, if_pos c1]; exact ⟨rfl, fun x => rs_x 1 _ _ _ x⟩
    · rw [if_neg c1, if_neg c1]; exact ⟨rfl, fun x => rs_x 1 _ _ _ x⟩
  have eL : bl_1 ft tv gp S c bs q Y = ((np (ow S) (pty S q) Y).1, lns eR cR ft tv gp S c bs (pty S q) Y.1.1 (S.2.2.1 26 (q + 1) - S.2.2.1 26 q) (S.2.2.1 26 q) (np (ow S) (pty S q) Y).2.1, (np (ow S) (pty S q) Y).2.2) := by
    rw [← bl_lns _ _ _ (fun l' x y => wf2 l' x (by omega))]; rfl
  have hR1 : R1 eR 1 (fun r => if r < q then b0 r else Y.1.1) S c bs T (np (ow S) (pty S q) Y).2.1 := h1.cg (fun j j1 j2 => by rw [eN.2, if_neg (by omega)]) (fun j z e => by rw [if_pos (tq j z e).2])
  have hR2 : R2 eR cR 1 S bs (pty S q) Y.1.1 (fun _ => none) (np (ow S) (pty S q) Y).2.1 := fun j j1 => by rw [eN.2, if_pos (by omega)]; rfl
  obtain ⟨l1, l2, l3⟩ := lns_l (tv := tv) (ec := cR) (q := q) (b := fun r => if r < q then b0 r else Y.1.1) hb (by rw [if_neg (by omega)]) (S.2.2.1 26 (q + 1) - S.2.2.1 26 q) (S.2.2.1 26 q) T (fun _ => none) _ (fun l' x y => wf2 l' x (by omega)) hR1 hR2
  rw [eL]
  generalize lns eR cR ft tv gp S c bs (pty S q) Y.1.1 (S.2.2.1 26 (q + 1) - S.2.2.1 26 q) (S.2.2.1 26 q) (np (ow S) (pty S q) Y).2.1 = F1 at l1 l2 l3 ⊢
  have hF1 : ∀ x, x < Y.1.1 → ¬ own_ S c bs x → F1 x = Y.2.1 x := fun x a d => by rw [l3 x d (by omega), eN.2, if_neg (by omega)]
  have hF2 : ∀ j, inw S (pty S q) ≤ j → j < pbn S (pty S q) → F1 (Y.1.1 + j) = 1 := fun j a d => by rw [l3 _ (by omega) (by omega), eN.2, if_pos (by omega)]
  by_cases c1 : 1 < pty S q
  · have en : np (ow S) (pty S q) Y = np_c (ow S) (pty S q) Y := if_pos c1
    have po : pbn S (pty S q) = ow S (pty S q - 2) := by unfold pbn; rw [if_pos c1]
    rw [en] at eN ⊢
    refine ⟨⟨fun s hs => ?_, fun s s' hs hs' hne => absurd (hs.trans hs'.symm) hne, fun n a d => ?_⟩, l1, l2, hF2, ⟨⟨?_, Nat.le_refl _⟩, hF1, fun x a => ?_, fun _ _ => ⟨rfl, rfl⟩, fun t a => ⟨va_up_ne _ _ (by omega), va_up_ne _ _ (by omega)⟩⟩, eN.1, ?_⟩
    · rw [hs, tyl_1]
      exact ⟨⟨Nat.le_refl _, Nat.le_of_eq eN.1.symm⟩, fun z => by omega⟩
    · have d : n < Y.1.2.2 := d
      omega
    · show Y.1.1 ≤ (np_c (ow S) (pty S q) Y).1.1
      rw [eN.1]; exact Nat.le_add_right _ _
    · show rs 0 (ow S (pty S q - 2)) Y.1.1 Y.2.2.1 x = _
      rw [rs_x, if_neg (by omega)]
    · rw [if_pos c1]
      refine ⟨rfl, fun t r e => ?_⟩
      rcases t with _ | t
      · have : q = r := Option.some.inj e
        subst this
        exact ⟨va_up_self _ _ _, va_up_self _ _ _⟩
      · cases e
  · have en : np (ow S) (pty S q) Y = np_g (pty S q) Y := if_neg c1
    have iw : inw S (pty S q) = if pty S q = 0 then 2 else 1 := by unfold inw; rw [if_neg c1]
    have pb_ : pbn S (pty S q) = inw S (pty S q) + 1 := by unfold pbn inw; rw [if_neg c1, if_neg c1]; split <;> rfl
    have p3 : pbn S (pty S q) = if pty S q = 0 then 3 else 2 := by unfold pbn; rw [if_neg c1]
    rw [en] at eN ⊢
    refine ⟨⟨fun s hs => ?_, fun s s' hs hs' hne => absurd (hs.trans hs'.symm) hne, fun n a d => ⟨[q], rfl, by rw [tyl_1]; omega, ?_⟩⟩, l1, l2, hF2, ⟨⟨?_, Nat.le_succ _⟩, hF1, fun x a => ?_, fun n a => ⟨va_up_ne _ _ (Nat.ne_of_lt a), va_up_ne _ _ (Nat.ne_of_lt a)⟩, fun t a => ⟨rfl, rfl⟩⟩, eN.1, ?_⟩
    · rw [hs, tyl_1]
      refine ⟨⟨Nat.le_refl _, Nat.le_of_eq eN.1.symm⟩, fun z => ⟨⟨Nat.le_refl _, Nat.lt_succ_self _⟩, ?_, va_up_self _ _ _, va_up_self _ _ _⟩⟩
      show va_up (rs 0 (if pty S q = 0 then 3 else 2) Y.1.1 Y.2.2.1) (Y.1.1 + (if pty S q = 0 then 2 else 1)) (Y.1.2.2 + 1) (Y.1.1 + inw S (pty S q)) = _
      rw [← iw]; exact va_up_self _ _ _
    · have d : n < Y.1.2.2 + 1 := d
      show Y.1.2.2 = n
      omega
    · show Y.1.1 ≤ (np_g (pty S q) Y).1.1
      rw [eN.1]; exact Nat.le_add_right _ _
    · show va_up (rs 0 (if pty S q = 0 then 3 else 2) Y.1.1 Y.2.2.1) (Y.1.1 + (if pty S q = 0 then 2 else 1)) (Y.1.2.2 + 1) x = _
      rw [← iw, va_up_ne _ _ (by omega), rs_x, if_neg (by omega)]
    · rw [if_neg c1]
      exact ⟨rfl, fun t r e => by cases e⟩
end RPH
