/-! drive and tick, on both boards -/
theorem dbit_b (y : Int32) (i : Nat) : dbit y i = (decide (dbit y i ≠ 0)).toNat := by
  have := dbit_le y i
  by_cases e : dbit y i = 0
  · rw [decide_eq_false (fun q => q e)]; exact e
  · rw [decide_eq_true e]; show _ = 1; omega
theorem bdnx_sp {fi : Nat → Nat} {va : Nat → Bool} {n : Nat} : ∀ k i x, i + k = n → (∀ j, j < i → x j = va (fi j)) → ∀ j, j < n → bd_nx fi va k i x j = va (fi j)
  | 0, i, x, hi, h, j, hj => h j (by omega)
  | k + 1, i, x, hi, h, j, hj => by
    refine bdnx_sp k (i + 1) (va_up x i (va (fi i))) (by omega) (fun j' hj' => ?_) j hj
    by_cases e : j' = i
    · rw [e, va_up_self]
    · rw [va_up_ne _ _ e]; exact h j' (by omega)
theorem tknv_sp {ga bv : Nat → Nat} {n : Nat} : ∀ k i x, i + k = n → (∀ j, j < i → x j = vo bv (ga j)) → ∀ j, j < n → tk_nv ga bv k i x j = vo bv (ga j)
  | 0, i, x, hi, h, j, hj => h j (by omega)
  | k + 1, i, x, hi, h, j, hj => by
    refine tknv_sp k (i + 1) (va_up x i (vo bv (ga i))) (by omega) (fun j' hj' => ?_) j hj
    by_cases e : j' = i
    · rw [e, va_up_self]
    · rw [va_up_ne _ _ e]; exact h j' (by omega)
def dfC (isd nx : Nat → Bool) (fg : Nat) (va : Nat → Bool) (j : Nat) : Bool := decide (isd j = true ∧ va (fg + j) ≠ nx j)
theorem bdtk_sp {isd nx : Nat → Bool} {fg n : Nat} {va : Nat → Bool} : ∀ k i (V : (Nat → Bool) × Nat), i + k = n → (∀ x, (∀ j, j < i → isd j = true → x ≠ fg + j) → V.1 x = va x) → (∀ j, j < i → isd j = true → V.1 (fg + j) = nx j) → V.2 = cns (dfC isd nx fg va) i →
    (∀ x, (∀ j, j < n → isd j = true → x ≠ fg + j) → (bd_tk isd nx fg k i V).1 x = va x) ∧ (∀ j, j < n → isd j = true → (bd_tk isd nx fg k i V).1 (fg + j) = nx j) ∧ (bd_tk isd nx fg k i V).2 = cns (dfC isd nx fg va) n
  | 0, i, V, hi, h1, h2, h3 => by
    have : i = n := by omega
    subst this
    exact ⟨h1, h2, h3⟩
  | k + 1, i, V, hi, h1, h2, h3 => by
    have vi : V.1 (fg + i) = va (fg + i) := h1 _ (fun j hj _ => by omega)
    have e3 : cns (dfC isd nx fg va) (i + 1) = cns (dfC isd nx fg va) i + (if dfC isd nx fg va i = true then 1 else 0) := rfl
    have eU : bd_tk isd nx fg (k + 1) i V = bd_tk isd nx fg k (i + 1) (if isd i = true ∧ V.1 (fg + i) ≠ nx i then (va_up V.1 (fg + i) (nx i), V.2 + 1) else V) := rfl
    rw [eU]
    by_cases c : isd i = true ∧ V.1 (fg + i) ≠ nx i
    · rw [if_pos c]
      refine bdtk_sp k (i + 1) _ (by omega) (fun x hx => ?_) (fun j hj dj => ?_) ?_
      · show va_up V.1 (fg + i) (nx i) x = va x
        rw [va_up_ne _ _ (hx i (by omega) c.1)]; exact h1 x (fun j hj => hx j (by omega))
      · show va_up V.1 (fg + i) (nx i) (fg + j) = nx j
        by_cases e : j = i
        · rw [e, va_up_self]
        · rw [va_up_ne _ _ (by omega)]; exact h2 j (by omega) dj
      · show V.2 + 1 = _
        have dT : dfC isd nx fg va i = true := decide_eq_true (by rw [← vi]; exact c)
        rw [e3, if_pos dT, h3]
    · rw [if_neg c]
      refine bdtk_sp k (i + 1) V (by omega) (fun x hx => h1 x (fun j hj => hx j (by omega))) (fun j hj dj => ?_) ?_
      · by_cases e : j = i
        · subst e
          by_cases q : V.1 (fg + j) = nx j
          · exact q
          · exact absurd ⟨dj, q⟩ c
        · exact h2 j (by omega) dj
      · have dT : ¬ dfC isd nx fg va i = true := fun q => c (by have z := of_decide_eq_true q; rw [← vi] at z; exact z)
        rw [e3, if_neg dT, h3, Nat.add_zero]
def dfR (gd : Nat → Bool) (gi nv_ bv : Nat → Nat) (j : Nat) : Bool := decide (gd j = true ∧ bv (gi j + 1) ≠ nv_ j)
theorem tk2_sp {gd : Nat → Bool} {gi nv_ bv : Nat → Nat} {n : Nat} (hin : ∀ i j, i < n → j < n → gd i = true → gd j = true → gi i = gi j → i = j) : ∀ k i (V : (Nat → Nat) × Nat), i + k = n → (∀ x, (∀ j, j < i → gd j = true → x ≠ gi j + 1) → V.1 x = bv x) → (∀ j, j < i → gd j = true → V.1 (gi j + 1) = nv_ j) → V.2 = cns (dfR gd gi nv_ bv) i →
    (∀ x, (∀ j, j < n → gd j = true → x ≠ gi j + 1) → (tk_2 gd gi nv_ k i V).1 x = bv x) ∧ (∀ j, j < n → gd j = true → (tk_2 gd gi nv_ k i V).1 (gi j + 1) = nv_ j) ∧ (tk_2 gd gi nv_ k i V).2 = cns (dfR gd gi nv_ bv) n
  | 0, i, V, hi, h1, h2, h3 => by
    have : i = n := by omega
    subst this
    exact ⟨h1, h2, h3⟩
  | k + 1, i, V, hi, h1, h2, h3 => by
    have e3 : cns (dfR gd gi nv_ bv) (i + 1) = cns (dfR gd gi nv_ bv) i + (if dfR gd gi nv_ bv i = true then 1 else 0) := rfl
    have eU : tk_2 gd gi nv_ (k + 1) i V = tk_2 gd gi nv_ k (i + 1) (tk_1 gd gi nv_ i V) := rfl
    rw [eU]
    by_cases c : gd i = true
    · have vi : V.1 (gi i + 1) = bv (gi i + 1) := h1 _ (fun j hj dj e => by have := hin i j (by omega) (by omega) c dj (by omega); omega)
      refine tk2_sp hin k (i + 1) _ (by omega) (fun x hx => ?_) (fun j hj dj => ?_) ?_
      · unfold tk_1; rw [if_pos c]
        show va_up V.1 (gi i + 1) (nv_ i) x = bv x
        rw [va_up_ne _ _ (hx i (by omega) c)]; exact h1 x (fun j hj => hx j (by omega))
      · unfold tk_1; rw [if_pos c]
        show va_up V.1 (gi i + 1) (nv_ i) (gi j + 1) = nv_ j
        by_cases e : j = i
        · rw [e, va_up_self]
        · rw [va_up_ne _ _ (fun q => e (hin j i (by omega) (by omega) dj c (by omega)))]; exact h2 j (by omega) dj
      · unfold tk_1; rw [if_pos c]
        show (if V.1 (gi i + 1) = nv_ i then V.2 else V.2 + 1) = _
        rw [e3, ← h3]
        by_cases q : V.1 (gi i + 1) = nv_ i
        · rw [if_pos q, if_neg (fun z => (of_decide_eq_true z).2 (vi ▸ q)), Nat.add_zero]
        · have dT : dfR gd gi nv_ bv i = true := decide_eq_true ⟨c, by rw [← vi]; exact q⟩
          rw [if_neg q, if_pos dT]
    · have e1 : tk_1 gd gi nv_ i V = V := by unfold tk_1; rw [if_neg c]
      rw [e1]
      refine tk2_sp hin k (i + 1) V (by omega) (fun x hx => h1 x (fun j hj => hx j (by omega))) (fun j hj dj => ?_) ?_
      · by_cases e : j = i
        · subst e; exact absurd dj c
        · exact h2 j (by omega) dj
      · rw [e3, if_neg (fun q => c (of_decide_eq_true q).1), h3, Nat.add_zero]
section VAT
variable {ft tv gp : Nat → Int32} {S : PS} {c0 fg : Nat} {bC gC bR gR : List Nat → Nat} {Z : LZ} {fi si : Nat → Nat} {Y : LY} {G : (Nat → Nat) × (Nat → Nat)}
theorem BB.nin (hb : BB ft tv gp S c0 fg bC gC Z fi si bR gR Y G) {s : List Nat} (hs : gtp S c0 s) : inw S (c0 + 2) ≤ bR s := by
  have a := (hb.1.2.2.2.1.1.1 s hs.1).1.1
  have b := inw_le S (c0 + 2)
  unfold pbn at b; rw [if_pos (by omega)] at b
  have b : inw S (c0 + 2) ≤ ow S c0 := b
  omega
theorem VA.put {W : List Nat → Prop} {va : Nat → Bool} {bv : Nat → Nat} (hb : BB ft tv gp S c0 fg bC gC Z fi si bR gR Y G) (h : VA S c0 fg gC bR Y W va bv) {j : Nat} (hj : j < inw S (c0 + 2)) (b : Bool) : VA S c0 fg gC bR Y W (va_up va (2 + j) b) (va_up bv j b.toNat) := by
  obtain ⟨h1, h2, h3, h4, h5⟩ := h
  have fgl := hb.2.1
  refine ⟨by rw [va_up_ne _ _ (by omega)]; exact h1, by rw [va_up_ne _ _ (by omega)]; exact h2, fun i hi => ?_, fun x x1 x2 x3 => ?_, fun s hs w => ?_⟩
  · by_cases e : i = j
    · rw [e, va_up_self, va_up_self]
    · rw [va_up_ne _ _ e, va_up_ne _ _ (by omega)]; exact h3 i hi
  · rw [va_up_ne _ _ (by omega)]; exact h4 x x1 x2 x3
  · rw [va_up_ne _ _ (by have := hb.nin hs; omega), va_up_ne _ _ (by omega)]; exact h5 s hs w
/-- drive writes the same bits -/
theorem VA.drv {W : List Nat → Prop} (hb : BB ft tv gp S c0 fg bC gC Z fi si bR gR Y G) {y : Int32} {o w : Nat} (how : o + w ≤ inw S (c0 + 2)) : ∀ k i va bv, i + k = w → VA S c0 fg gC bR Y W va bv → VA S c0 fg gC bR Y W (drc y (2 + o) k i va) (dr y o k i bv)
  | 0, i, va, bv, _, h => h
  | k + 1, i, va, bv, hi, h => by
    show VA S c0 fg gC bR Y W (drc y (2 + o) k (i + 1) (va_up va (2 + o + i) (decide (dbit y i ≠ 0)))) (dr y o k (i + 1) (va_up bv (o + i) (dbit y i)))
    refine VA.drv hb how k (i + 1) _ _ (by omega) ?_
    have q := h.put hb (j := o + i) (by omega) (decide (dbit y i ≠ 0))
    rw [← dbit_b, ← Nat.add_assoc] at q
    exact q
/-- a tick: the Dffs of both sides, and how many changed -/
theorem VA.tick (hb : BB ft tv gp S c0 fg bC gC Z fi si bR gR Y G) {va : Nat → Bool} {bv : Nat → Nat} (h : VA S c0 fg gC bR Y (fun _ => True) va bv) {ng : Nat} (hng : ng = Z.2.2.2.2.2.2.2.2) {nx : Nat → Bool} {nw : Nat → Nat} (hnx : ∀ j, j < ng → nx j = va (fi j)) (hnw : ∀ j, j < Y.1.2.2 → nw j = vo bv (G.1 j)) :
    VA S c0 fg gC bR Y (fun s => tyl S s = 1) (bd_tk Z.2.2.1 nx fg ng 0 (va, 0)).1 (tk_2 Y.2.2.2.2.2.2 Y.2.2.2.2.2.1 nw Y.1.2.2 0 (bv, 0)).1 ∧ (bd_tk Z.2.2.1 nx fg ng 0 (va, 0)).2 = (tk_2 Y.2.2.2.2.2.2 Y.2.2.2.2.2.1 nw Y.1.2.2 0 (bv, 0)).2 := by
  subst hng
  have kd : ∀ x, x < Y.1.2.2 → Y.2.2.2.2.2.2 x = true → ∃ s, gtp S c0 s ∧ gR s = x ∧ tyl S s = 1 ∧ Y.2.2.2.2.2.1 x = bR s := fun x hx dx => by
    obtain ⟨s, s1, s2⟩ := hb.1.2.gx hx
    have := (hb.isC s1).2
    rw [s2, dx] at this
    have K := (hb.1.2.gt s1).2.2.1
    rw [s2] at K
    exact ⟨s, s1, s2, of_decide_eq_true this.symm, K⟩
  have kc : ∀ j, j < Z.2.2.2.2.2.2.2.2 → Z.2.2.1 j = true → ∃ s, gtp S c0 s ∧ gC s = j ∧ tyl S s = 1 := fun j hj dj => by
    obtain ⟨s, s1, s2⟩ := hb.1.1.gx hj
    have := (hb.isC s1).1
    rw [s2, dj] at this
    exact ⟨s, s1, s2, of_decide_eq_true this.symm⟩
  have dis : ∀ s t, gtp S c0 s → gtp S c0 t → bR s = bR t → s = t := fun s t hs ht e => by
    by_cases z : s = t
    · exact z
    · have p1 := pbn_g S hs.2
      have p2 := pbn_g S ht.2
      rcases (hb.1.2.2.2.1.1.2.1 s t hs.1 ht.1 z).1 with d | d <;> omega
  have hin : ∀ i j, i < Y.1.2.2 → j < Y.1.2.2 → Y.2.2.2.2.2.2 i = true → Y.2.2.2.2.2.2 j = true → Y.2.2.2.2.2.1 i = Y.2.2.2.2.2.1 j → i = j := fun i j hi hj di dj e => by
    obtain ⟨s, s1, s2, s3, s4⟩ := kd i hi di
    obtain ⟨t, t1, t2, t3, t4⟩ := kd j hj dj
    rw [s4, t4] at e
    rw [← s2, ← t2, dis s t s1 t1 e]
  obtain ⟨a1, a2, a3⟩ := bdtk_sp (isd := Z.2.2.1) (nx := nx) (fg := fg) (va := va) Z.2.2.2.2.2.2.2.2 0 (va, 0) (Nat.zero_add _) (fun _ _ => rfl) (fun _ q => absurd q (Nat.not_lt_zero _)) rfl
  obtain ⟨b1, b2, b3⟩ := tk2_sp (gd := Y.2.2.2.2.2.2) (gi := Y.2.2.2.2.2.1) (nv_ := nw) (bv := bv) hin Y.1.2.2 0 (bv, 0) (Nat.zero_add _) (fun _ _ => rfl) (fun _ q => absurd q (Nat.not_lt_zero _)) rfl
  generalize bd_tk Z.2.2.1 nx fg Z.2.2.2.2.2.2.2.2 0 (va, 0) = V at a1 a2 a3 ⊢
  generalize tk_2 Y.2.2.2.2.2.2 Y.2.2.2.2.2.1 nw Y.1.2.2 0 (bv, 0) = B at b1 b2 b3 ⊢
  have fgl := hb.2.1
  have same : ∀ s, gtp S c0 s → tyl S s = 1 → nw (gR s) = (nx (gC s)).toNat ∧ bv (Y.2.2.2.2.2.1 (gR s) + 1) = (va (fg + gC s)).toNat ∧ Y.2.2.2.2.2.1 (gR s) = bR s := fun s s1 t1 => by
    obtain ⟨p, q, -⟩ := hb.2.2.1 s s1
    have e := h.src q (fun _ _ => trivial)
    rw [← p.1] at e
    have K := (hb.1.2.gt s1).2.2.1
    have v := h.2.2.2.2 s s1 trivial
    rw [t1, (inw_1 S).2] at v
    exact ⟨by rw [hnw _ (hb.1.2.gt s1).1, hnx _ (hb.1.1.gt s1).1]; exact e, by rw [K]; exact v, K⟩
  refine ⟨⟨?_, ?_, fun j hj => ?_, fun x x1 x2 x3 => ?_, fun s s1 t1 => ?_⟩, ?_⟩
  · rw [a1 0 (fun j _ _ => by omega)]; exact h.1
  · rw [a1 1 (fun j _ _ => by omega)]; exact h.2.1
  · rw [a1 (2 + j) (fun j' _ _ => by omega), b1 j (fun x hx dx e => ?_)]
    · exact h.2.2.1 j hj
    · obtain ⟨s, s1, -, -, s4⟩ := kd x hx dx
      have := hb.nin s1
      omega
  · rw [b1 x (fun y hy dy e => ?_)]
    · exact h.2.2.2.1 x x1 x2 x3
    · obtain ⟨s, s1, s2, s3, s4⟩ := kd y hy dy
      have K := (hb.1.2.gt s1).2.1
      rw [s3, (inw_1 S).2, ← s4, ← e, x3] at K; omega
  · obtain ⟨e1, -, e3⟩ := same s s1 t1
    have i1 := b2 (gR s) (hb.1.2.gt s1).1 (by rw [(hb.isC s1).2, t1]; rfl)
    have i2 := a2 (gC s) (hb.1.1.gt s1).1 (by rw [(hb.isC s1).1, t1]; rfl)
    rw [e3] at i1
    rw [t1, (inw_1 S).2, i1, i2]; exact e1
  · rw [a3, b3]
    have tn : ∀ a b : Bool, a ≠ b ↔ a.toNat ≠ b.toNat := fun a b => by cases a <;> cases b <;> decide
    refine cns_bij (V := fun s => gtp S c0 s ∧ tyl S s = 1 ∧ va (fg + gC s) ≠ nx (gC s)) (f := gC) (g := gR) (fun s hs => ⟨(hb.1.1.gt hs.1).1, decide_eq_true ⟨by rw [(hb.isC hs.1).1, hs.2.1]; rfl, hs.2.2⟩⟩) (fun s hs => ⟨(hb.1.2.gt hs.1).1, decide_eq_true ⟨by rw [(hb.isC hs.1).2, hs.2.1]; rfl, ?_⟩⟩) (fun s t a b e => hb.1.1.gi a.1 b.1 e) (fun s t a b e => hb.1.2.gi a.1 b.1 e) (fun i hi pi => ?_) (fun i hi pi => ?_)
    · obtain ⟨e1, e2, -⟩ := same s hs.1 hs.2.1
      rw [e1, e2]; exact (tn _ _).mp hs.2.2
    · have pi := of_decide_eq_true pi
      obtain ⟨s, s1, s2, s3⟩ := kc i hi pi.1
      exact ⟨s, ⟨s1, s3, by rw [s2]; exact pi.2⟩, s2⟩
    · have pi := of_decide_eq_true pi
      obtain ⟨s, s1, s2, s3, s4⟩ := kd i hi pi.1
      obtain ⟨e1, e2, -⟩ := same s s1 s3
      rw [s2] at e1 e2
      exact ⟨s, ⟨s1, s3, (tn _ _).mpr (by rw [← e1, ← e2]; exact pi.2)⟩, s2⟩
end VAT
