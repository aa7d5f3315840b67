/-! The values of both boards -/
/-- settle of the class: what it leaves, and that each Nand fits its inputs -/
theorem bds_sp {isD : Nat → Bool} {fi si : Nat → Nat} {fg ng : Nat} {T : AS} (N : NI isD fi si fg ng 0 T) {va : Nat → Bool} : ∀ k i (V : (Nat → Bool) × Nat), i + k = T.2.2.2.1 → (∀ x, (∀ p, p < i → x ≠ fg + T.2.2.1 p) → V.1 x = va x) → (∀ p, p < i → V.1 (fg + T.2.2.1 p) = bd_nand fi si V.1 (T.2.2.1 p)) → V.2 = cns (fun p => V.1 (fg + T.2.2.1 p)) i →
    (∀ x, (∀ p, p < T.2.2.2.1 → x ≠ fg + T.2.2.1 p) → (bd_set T.2.2.1 fi si fg k i V).1 x = va x) ∧ (∀ p, p < T.2.2.2.1 → (bd_set T.2.2.1 fi si fg k i V).1 (fg + T.2.2.1 p) = bd_nand fi si (bd_set T.2.2.1 fi si fg k i V).1 (T.2.2.1 p)) ∧ (bd_set T.2.2.1 fi si fg k i V).2 = cns (fun p => (bd_set T.2.2.1 fi si fg k i V).1 (fg + T.2.2.1 p)) T.2.2.2.1
  | 0, i, V, hi, h1, h2, h3 => by
    have : i = T.2.2.2.1 := by omega
    subst this
    exact ⟨h1, h2, h3⟩
  | k + 1, i, V, hi, h1, h2, h3 => by
    obtain ⟨n1, n2, n3, n4, n5, n6, n7, n8, n9⟩ := N
    have hdj : ∀ p, p < T.2.2.2.1 → isD (T.2.2.1 p) = false := fun p hp => by
      obtain ⟨a, b, -⟩ := n7 p hp
      rcases e : isD (T.2.2.1 p) with _ | _
      · rfl
      · have := (n4 _ a).mp e; omega
    have inn : ∀ p, p ≤ i → fi (T.2.2.1 p) ≠ fg + T.2.2.1 i ∧ si (T.2.2.1 p) ≠ fg + T.2.2.1 i := fun p hp => by
      obtain ⟨-, -, c⟩ := n7 p (by omega)
      constructor
      · intro e
        obtain ⟨p', q1, q2⟩ := c (T.2.2.1 i) (n7 i (by omega)).1 (Or.inl e) (hdj i (by omega))
        exact n8 p' i (by omega) (by omega) q2
      · intro e
        obtain ⟨p', q1, q2⟩ := c (T.2.2.1 i) (n7 i (by omega)).1 (Or.inr e) (hdj i (by omega))
        exact n8 p' i (by omega) (by omega) q2
    have od : ∀ p, p < i → fg + T.2.2.1 p ≠ fg + T.2.2.1 i := fun p hp e => n8 p i hp (by omega) (by omega)
    have nd : ∀ p, p ≤ i → bd_nand fi si (va_up V.1 (fg + T.2.2.1 i) (bd_nand fi si V.1 (T.2.2.1 i))) (T.2.2.1 p) = bd_nand fi si V.1 (T.2.2.1 p) := fun p hp => by
      unfold bd_nand
      rw [va_up_ne _ _ (inn p hp).1, va_up_ne _ _ (inn p hp).2]
    refine bds_sp ⟨n1, n2, n3, n4, n5, n6, n7, n8, n9⟩ k (i + 1) _ (by omega) (fun x hx => ?_) (fun p hp => ?_) ?_
    · show va_up V.1 (fg + T.2.2.1 i) (bd_nand fi si V.1 (T.2.2.1 i)) x = va x
      rw [va_up_ne _ _ (hx i (by omega))]
      exact h1 x (fun p hp => hx p (by omega))
    · show va_up V.1 (fg + T.2.2.1 i) (bd_nand fi si V.1 (T.2.2.1 i)) (fg + T.2.2.1 p) = bd_nand fi si (va_up V.1 (fg + T.2.2.1 i) (bd_nand fi si V.1 (T.2.2.1 i))) (T.2.2.1 p)
      rw [nd p (by omega)]
      by_cases e : p = i
      · rw [e, va_up_self]
      · rw [va_up_ne _ _ (od p (by omega))]; exact h2 p (by omega)
    · show V.2 + (if bd_nand fi si V.1 (T.2.2.1 i) = true then 1 else 0) = cns (fun p => va_up V.1 (fg + T.2.2.1 i) (bd_nand fi si V.1 (T.2.2.1 i)) (fg + T.2.2.1 p)) i + (if va_up V.1 (fg + T.2.2.1 i) (bd_nand fi si V.1 (T.2.2.1 i)) (fg + T.2.2.1 i) = true then 1 else 0)
      rw [va_up_self, h3]
      congr 1
      exact cns_eq i (fun p hp => by rw [va_up_ne _ _ (od p hp)])
/-- settle of the reference -/
theorem sts_sp {gd : Nat → Bool} {gob ga gb gi : Nat → Nat} {gc : Nat} {O : OR} (N : OI gd gob ga gb gc O) (hgo : ∀ x, x < gc → gd x = false → gob (gi x + 2) = x + 1) {bv : Nat → Nat} : ∀ k i (B : Nat → Nat), i + k = O.2.2.1 → (∀ x, (∀ p, p < i → x ≠ gi (O.2.1 p) + 2) → B x = bv x) → (∀ p, p < i → B (gi (O.2.1 p) + 2) = 1 - vo B (ga (O.2.1 p)) * vo B (gb (O.2.1 p))) →
    (∀ x, (∀ p, p < O.2.2.1 → x ≠ gi (O.2.1 p) + 2) → st_set O.2.1 gi ga gb k i B x = bv x) ∧ ∀ p, p < O.2.2.1 → st_set O.2.1 gi ga gb k i B (gi (O.2.1 p) + 2) = 1 - vo (st_set O.2.1 gi ga gb k i B) (ga (O.2.1 p)) * vo (st_set O.2.1 gi ga gb k i B) (gb (O.2.1 p))
  | 0, i, B, hi, h1, h2 => by
    have : i = O.2.2.1 := by omega
    subst this
    exact ⟨h1, h2⟩
  | k + 1, i, B, hi, h1, h2 => by
    obtain ⟨n1, n2, n3, n4⟩ := N
    have hx : ∀ p, p < O.2.2.1 → O.2.1 p < gc ∧ gd (O.2.1 p) = false := fun p hp => by
      obtain ⟨a, b, -⟩ := n2 p hp
      rcases e : O.1 (O.2.1 p) with _ | v
      · exact absurd e b
      · exact ⟨a, (n1 _ v a e).1⟩
    have vx : ∀ p w, p ≤ i → (w = ga (O.2.1 p) ∨ w = gb (O.2.1 p)) → ∀ z, vo (va_up B (gi (O.2.1 i) + 2) z) w = vo B w := fun p w hp hw z => by
      unfold vo
      by_cases w0 : w = 0
      · rw [if_pos w0, if_pos w0]
      · rw [if_neg w0, if_neg w0]
        by_cases w2 : w < 2
        · rw [if_pos w2, if_pos w2]
        · rw [if_neg w2, if_neg w2, va_up_ne _ _ (fun e => ?_)]
          have hi_ := hx i (by omega)
          have d : dep gd gob w (O.2.1 i) := ⟨by omega, by rw [e]; exact hgo _ hi_.1 hi_.2, hi_.2⟩
          obtain ⟨p', q1, q2⟩ := (n2 p (by omega)).2.2 (O.2.1 i) hi_.1 (by rcases hw with q | q; exact Or.inl (q ▸ d); exact Or.inr (q ▸ d))
          exact n3 p' i (by omega) (by omega) q2
    have od : ∀ p, p < i → gi (O.2.1 p) + 2 ≠ gi (O.2.1 i) + 2 := fun p hp e => by
      have a := hx p (by omega)
      have b := hx i (by omega)
      have g1 := hgo _ a.1 a.2
      have g2 := hgo _ b.1 b.2
      rw [e, g2] at g1
      exact n3 p i hp (by omega) (by omega)
    refine sts_sp ⟨n1, n2, n3, n4⟩ hgo k (i + 1) _ (by omega) (fun x hx' => ?_) (fun p hp => ?_)
    · show va_up B (gi (O.2.1 i) + 2) _ x = bv x
      rw [va_up_ne _ _ (hx' i (by omega))]
      exact h1 x (fun p hp => hx' p (by omega))
    · show va_up B (gi (O.2.1 i) + 2) (1 - vo B (ga (O.2.1 i)) * vo B (gb (O.2.1 i))) (gi (O.2.1 p) + 2) = 1 - vo (va_up B (gi (O.2.1 i) + 2) (1 - vo B (ga (O.2.1 i)) * vo B (gb (O.2.1 i)))) (ga (O.2.1 p)) * vo (va_up B (gi (O.2.1 i) + 2) (1 - vo B (ga (O.2.1 i)) * vo B (gb (O.2.1 i)))) (gb (O.2.1 p))
      rw [vx p _ (by omega) (Or.inl rfl), vx p _ (by omega) (Or.inr rfl)]
      by_cases e : p = i
      · rw [e, va_up_self]
      · rw [va_up_ne _ _ (od p (by omega))]; exact h2 p (by omega)
section VAS
variable {ft tv gp : Nat → Int32} {S : PS} {c0 fg : Nat} {bC gC bR gR : List Nat → Nat} {Z : LZ} {fi si : Nat → Nat} {Y : LY} {G : (Nat → Nat) × (Nat → Nat)}
/-- the values are the same: at the IN bits, at the gates of W, and 0 elsewhere -/
def VA (S : PS) (c0 fg : Nat) (gC bR : List Nat → Nat) (Y : LY) (W : List Nat → Prop) (va : Nat → Bool) (bv : Nat → Nat) : Prop := va 0 = false ∧ va 1 = true ∧ (∀ j, j < inw S (c0 + 2) → bv j = (va (2 + j)).toNat) ∧ (∀ x, x < Y.1.1 → inw S (c0 + 2) ≤ x → Y.2.2.1 x = 0 → bv x = 0) ∧ ∀ s, gtp S c0 s → W s → bv (bR s + inw S (tyl S s)) = (va (fg + gC s)).toNat
theorem VA.src {W : List Nat → Prop} {va : Nat → Bool} {bv : Nat → Nat} (h : VA S c0 fg gC bR Y W va bv) {r : SR} {v : Nat} (hr : RV S c0 bR Y r v) (hw : ∀ t, r = .inr t → W t) : vo bv v = (va (cod fg gC r)).toNat := by
  obtain ⟨h1, h2, h3, h4, h5⟩ := h
  unfold vo
  rcases r with n | t
  · rcases n with _ | _ | n
    · have hr : 2 ≤ v ∧ Y.2.2.1 (v - 2) = 0 ∧ inw S (c0 + 2) ≤ v - 2 ∧ v - 2 < Y.1.1 := hr
      rw [if_neg (by omega), if_neg (by omega), h4 _ hr.2.2.2 hr.2.2.1 hr.2.1]
      show 0 = (va 0).toNat
      rw [h1]; rfl
    · have hr : v = 0 := hr
      rw [if_pos hr]
      show 1 = (va 1).toNat
      rw [h2]; rfl
    · have hr : v = n + 2 ∧ n < inw S (c0 + 2) ∧ Y.2.2.1 n = 0 := hr
      rw [if_neg (by omega), if_neg (by omega), hr.1, Nat.add_sub_cancel, h3 n hr.2.1]
      show _ = (va (n + 2)).toNat
      rw [Nat.add_comm 2 n]
  · have hr : v = bR t + inw S (tyl S t) + 2 ∧ vin S c0 t ∧ tyl S t ≤ 1 := hr
    rw [if_neg (by omega), if_neg (by omega), hr.1, Nat.add_sub_cancel]
    exact h5 t hr.2 (hw t rfl)
theorem nand_t (a b : Bool) : (!(a && b)).toNat = 1 - a.toNat * b.toNat := by cases a <;> cases b <;> rfl
/-- both sides settle alike -/
theorem VA.set (hb : BB ft tv gp S c0 fg bC gC Z fi si bR gR Y G) {T : AS} {O : OR} (hT : NI Z.2.2.1 fi si fg Z.2.2.2.2.2.2.2.2 0 T) (hT1 : ∀ j, j < Z.2.2.2.2.2.2.2.2 → T.2.1 (fg + j) ≠ 1) (hO : OI Y.2.2.2.2.2.2 Y.2.2.1 G.1 G.2 Y.1.2.2 O) (hO1 : ∀ x, x < Y.1.2.2 → Y.2.2.2.2.2.2 x = false → O.1 x ≠ none) {va : Nat → Bool} {bv : Nat → Nat} {o : Nat} (ho : o = 0) (h : VA S c0 fg gC bR Y (fun s => tyl S s = 1) va bv) :
    VA S c0 fg gC bR Y (fun _ => True) (bd_set T.2.2.1 fi si fg T.2.2.2.1 0 (va, o)).1 (st_set O.2.1 Y.2.2.2.2.2.1 G.1 G.2 O.2.2.1 0 bv) ∧ (bd_set T.2.2.1 fi si fg T.2.2.2.1 0 (va, o)).2 = cns (fun p => (bd_set T.2.2.1 fi si fg T.2.2.2.1 0 (va, o)).1 (fg + T.2.2.1 p)) T.2.2.2.1 := by
  obtain ⟨a1, a2, a3⟩ := bds_sp hT (va := va) T.2.2.2.1 0 (va, o) (Nat.zero_add _) (fun _ _ => rfl) (fun p hp => by omega) (by rw [ho]; rfl)
  have hgo : ∀ x, x < Y.1.2.2 → Y.2.2.2.2.2.2 x = false → Y.2.2.1 (Y.2.2.2.2.2.1 x + 2) = x + 1 := fun x hx gx => by
    obtain ⟨s, s1, s2⟩ := hb.1.2.gx hx
    have K := (hb.1.2.gt s1).2
    have i2 : tyl S s = 0 := by
      have := (hb.isC s1).2
      rw [s2, gx] at this
      have := of_decide_eq_false this.symm
      have := s1.2; omega
    rw [s2, i2] at K
    rw [K.2.1, ← K.1, (inw_1 S).1]
  obtain ⟨b1, b2⟩ := sts_sp hO hgo (bv := bv) O.2.2.1 0 bv (Nat.zero_add _) (fun _ _ => rfl) (fun p hp => by omega)
  generalize bd_set T.2.2.1 fi si fg T.2.2.2.1 0 (va, o) = V at a1 a2 a3 ⊢
  generalize st_set O.2.1 Y.2.2.2.2.2.1 G.1 G.2 O.2.2.1 0 bv = B at b1 b2 ⊢
  obtain ⟨h1, h2, h3, h4, h5⟩ := h
  -- positions of Nands
  have nC : ∀ x, (∀ j, j < Z.2.2.2.2.2.2.2.2 → Z.2.2.1 j = false → x ≠ fg + j) → V.1 x = va x := fun x hx => a1 x (fun p hp => by
    obtain ⟨q1, q2, -⟩ := hT.2.2.2.2.2.2.1 p hp
    refine hx _ q1 ?_
    rcases e : Z.2.2.1 (T.2.2.1 p) with _ | _
    · rfl
    · have := (hT.2.2.2.1 _ q1).mp e; omega)
  have nR : ∀ x, (∀ s, gtp S c0 s → tyl S s = 0 → x ≠ bR s + 2) → B x = bv x := fun x hx => b1 x (fun p hp => by
    obtain ⟨q1, q2, -⟩ := hO.2.1 p hp
    obtain ⟨s, s1, s2⟩ := hb.1.2.gx q1
    rcases e : O.1 (O.2.1 p) with _ | v
    · exact absurd e q2
    · have gx := (hO.1 _ v q1 e).1
      have := (hb.isC s1).2
      rw [s2, gx] at this
      have k0 : tyl S s = 0 := by
        have := of_decide_eq_false this.symm
        have := s1.2; omega
      have K := (hb.1.2.gt s1).2.2.1
      rw [s2] at K
      rw [K]; exact hx s s1 k0)
  have nin : ∀ s, gtp S c0 s → ow S c0 ≤ bR s := fun s hs => (hb.1.2.2.2.1.1.1 s hs.1).1.1
  have iwo : inw S (c0 + 2) ≤ ow S c0 := by have := inw_le S (c0 + 2); unfold pbn at this; rw [if_pos (by omega)] at this; exact this
  have fgl := hb.2.1
  have dis : ∀ s t, gtp S c0 s → gtp S c0 t → bR s + inw S (tyl S s) = bR t + inw S (tyl S t) → s = t := fun s t hs ht e => by
    by_cases z : s = t
    · exact z
    · have p1 := pbn_g S hs.2
      have p2 := pbn_g S ht.2
      rcases (hb.1.2.2.2.1.1.2.1 s t hs.1 ht.1 z).1 with d | d <;> omega
  have base : VA S c0 fg gC bR Y (fun s => tyl S s = 1) V.1 B := by
    refine ⟨by rw [nC 0 (fun j _ _ => by omega)]; exact h1, by rw [nC 1 (fun j _ _ => by omega)]; exact h2, fun j hj => ?_, fun x x1 x2 x3 => ?_, fun s hs t1 => ?_⟩
    · rw [nC (2 + j) (fun j' _ _ => by omega), nR j (fun s s1 _ => by have := nin s s1; omega)]; exact h3 j hj
    · rw [nR x (fun s s1 s0 e => ?_)]
      · exact h4 x x1 x2 x3
      · have K := (hb.1.2.gt s1).2.1
        rw [s0, (inw_1 S).1, ← e, x3] at K; omega
    · rw [nC (fg + gC s) (fun j hj nj e => ?_), nR _ (fun s' s1 s0 e => ?_)]
      · exact h5 s hs t1
      · have : s = s' := dis s s' hs s1 (by rw [s0, (inw_1 S).1]; exact e)
        rw [this] at t1; omega
      · have : gC s = j := by omega
        rw [← this, (hb.isC hs).1, t1] at nj; cases nj
  have full : ∀ N s, T.2.1 (fg + gC s) < N → gtp S c0 s → tyl S s = 0 → B (bR s + inw S (tyl S s)) = (V.1 (fg + gC s)).toNat := by
    intro N
    induction N with
    | zero => intro s hN; omega
    | succ N ih =>
      intro s hN hs h0
      obtain ⟨lv1, lv3⟩ := hb.lev hT hT1 hO hO1 (T.2.1 (fg + gC s) + 1) s (by omega) hs h0
      obtain ⟨i1, i2, i3⟩ := hb.in2 hs h0
      obtain ⟨e1, e2, e3, -, p, p1, p2⟩ := hT.2.2.2.2.2.1 (gC s) (hb.1.1.gt hs).1 lv3
      have e3 : T.2.1 (fg + gC s) = 1 + max (T.2.1 (fi (gC s)) - 2) (T.2.1 (si (gC s)) - 2) + 2 := e3
      obtain ⟨-, -, q, q1, q2⟩ := hO.1 (gR s) _ (hb.1.2.gt hs).1 lv1
      have vC := a2 p p1
      rw [p2] at vC
      have vR := b2 q q1
      rw [q2, (hb.1.2.gt hs).2.2.1] at vR
      rw [h0, (inw_1 S).1, vR, vC]
      have VW : VA S c0 fg gC bR Y (fun t => tyl S t = 1 ∨ T.2.1 (fg + gC t) < T.2.1 (fg + gC s)) V.1 B := ⟨base.1, base.2.1, base.2.2.1, base.2.2.2.1, fun t ht hw => by
        by_cases t0 : tyl S t = 0
        · rcases hw with w | w
          · omega
          · exact ih t (by omega) ht t0
        · exact base.2.2.2.2 t ht (by have := ht.2; omega)⟩
      have wok : ∀ j u, j < 2 → u = cod fg gC (sr_ ft tv gp S c0 s j) → T.2.1 u + 1 ≤ T.2.1 (fg + gC s) → ∀ t, sr_ ft tv gp S c0 s j = .inr t → tyl S t = 1 ∨ T.2.1 (fg + gC t) < T.2.1 (fg + gC s) := fun j u hj hu hlt t et => by
        rw [et] at hu
        have hu : u = fg + gC t := hu
        rw [← hu]; exact Or.inr (by omega)
      have s1 := VW.src i2 (wok 0 _ (by decide) i1.1 (by omega))
      have s2 := VW.src i3 (wok 1 _ (by decide) i1.2 (by omega))
      rw [s1, s2, ← i1.1, ← i1.2]
      unfold bd_nand
      rw [nand_t]
  refine ⟨⟨base.1, base.2.1, base.2.2.1, base.2.2.2.1, fun s hs _ => ?_⟩, a3⟩
  by_cases t0 : tyl S s = 0
  · exact full _ s (Nat.lt_succ_self _) hs t0
  · exact base.2.2.2.2 s hs (by have := hs.2; omega)
/-- as many Nands give 1 -/
theorem VA.ones (hb : BB ft tv gp S c0 fg bC gC Z fi si bR gR Y G) {T : AS} {O : OR} (hT : NI Z.2.2.1 fi si fg Z.2.2.2.2.2.2.2.2 0 T) (hT1 : ∀ j, j < Z.2.2.2.2.2.2.2.2 → T.2.1 (fg + j) ≠ 1) (hO : OI Y.2.2.2.2.2.2 Y.2.2.1 G.1 G.2 Y.1.2.2 O) (hO1 : ∀ x, x < Y.1.2.2 → Y.2.2.2.2.2.2 x = false → O.1 x ≠ none) {va : Nat → Bool} {bv : Nat → Nat} (h : VA S c0 fg gC bR Y (fun _ => True) va bv) : cns (fun p => va (fg + T.2.2.1 p)) T.2.2.2.1 = cns (fun p => decide (bv (Y.2.2.2.2.2.1 (O.2.1 p) + 2) = 1)) O.2.2.1 := by
  have kz : ∀ s, gtp S c0 s → Y.2.2.2.2.2.2 (gR s) = false → tyl S s = 0 := fun s s1 gx => by
    have := (hb.isC s1).2
    rw [gx] at this
    have := of_decide_eq_false this.symm
    have := s1.2; omega
  have kc : ∀ s, gtp S c0 s → Z.2.2.1 (gC s) = false → tyl S s = 0 := fun s s1 gx => by
    have := (hb.isC s1).1
    rw [gx] at this
    have := of_decide_eq_false this.symm
    have := s1.2; omega
  have e1 : cns (fun p => va (fg + T.2.2.1 p)) T.2.2.2.1 = cns (fun j => decide (Z.2.2.1 j = false ∧ va (fg + j) = true)) Z.2.2.2.2.2.2.2.2 := by
    have dj : ∀ p, p < T.2.2.2.1 → Z.2.2.1 (T.2.2.1 p) = false := fun p hp => by
      obtain ⟨q1, q2, -⟩ := hT.2.2.2.2.2.2.1 p hp
      rcases e : Z.2.2.1 (T.2.2.1 p) with _ | _
      · rfl
      · have := (hT.2.2.2.1 _ q1).mp e; omega
    refine cns_bij (V := fun p => p < T.2.2.2.1 ∧ va (fg + T.2.2.1 p) = true) (f := fun p => p) (g := T.2.2.1) (fun p hp => ⟨hp.1, hp.2⟩) (fun p hp => ⟨(hT.2.2.2.2.2.2.1 p hp.1).1, decide_eq_true ⟨dj p hp.1, hp.2⟩⟩) (fun p p' _ _ e => e) (fun p p' hp hp' e => ?_) (fun i hi pi => ⟨i, ⟨hi, pi⟩, rfl⟩) (fun j hj pj => ?_)
    · rcases Nat.lt_trichotomy p p' with z | z | z
      · exact absurd e (hT.2.2.2.2.2.2.2.1 p p' z hp'.1)
      · exact z
      · exact absurd e.symm (hT.2.2.2.2.2.2.2.1 p' p z hp.1)
    · have pj := of_decide_eq_true pj
      obtain ⟨s, s1, s2⟩ := hb.1.1.gx hj
      have l3 := (hb.lev hT hT1 hO hO1 _ s (Nat.lt_succ_self _) s1 (kc s s1 (by rw [s2]; exact pj.1))).2
      rw [s2] at l3
      obtain ⟨-, -, -, -, p, p1, p2⟩ := hT.2.2.2.2.2.1 j hj l3
      exact ⟨p, ⟨p1, by rw [p2]; exact pj.2⟩, p2⟩
  have e2 : cns (fun p => decide (bv (Y.2.2.2.2.2.1 (O.2.1 p) + 2) = 1)) O.2.2.1 = cns (fun x => decide (Y.2.2.2.2.2.2 x = false ∧ bv (Y.2.2.2.2.2.1 x + 2) = 1)) Y.1.2.2 := by
    have dj : ∀ p, p < O.2.2.1 → O.2.1 p < Y.1.2.2 ∧ Y.2.2.2.2.2.2 (O.2.1 p) = false := fun p hp => by
      obtain ⟨q1, q2, -⟩ := hO.2.1 p hp
      rcases e : O.1 (O.2.1 p) with _ | v
      · exact absurd e q2
      · exact ⟨q1, (hO.1 _ v q1 e).1⟩
    refine cns_bij (V := fun p => p < O.2.2.1 ∧ bv (Y.2.2.2.2.2.1 (O.2.1 p) + 2) = 1) (f := fun p => p) (g := O.2.1) (fun p hp => ⟨hp.1, decide_eq_true hp.2⟩) (fun p hp => ⟨(dj p hp.1).1, decide_eq_true ⟨(dj p hp.1).2, hp.2⟩⟩) (fun p p' _ _ e => e) (fun p p' hp hp' e => ?_) (fun i hi pi => ⟨i, ⟨hi, of_decide_eq_true pi⟩, rfl⟩) (fun j hj pj => ?_)
    · rcases Nat.lt_trichotomy p p' with z | z | z
      · exact absurd e (hO.2.2.1 p p' z hp'.1)
      · exact z
      · exact absurd e.symm (hO.2.2.1 p' p z hp.1)
    · have pj := of_decide_eq_true pj
      rcases e : O.1 j with _ | v
      · exact absurd e (hO1 j hj pj.1)
      · obtain ⟨-, -, p, p1, p2⟩ := hO.1 j v hj e
        exact ⟨p, ⟨p1, by rw [p2]; exact pj.2⟩, p2⟩
  rw [e1, e2]
  have vv : ∀ s, gtp S c0 s → tyl S s = 0 → (bv (Y.2.2.2.2.2.1 (gR s) + 2) = 1 ↔ va (fg + gC s) = true) := fun s s1 s0 => by
    have := h.2.2.2.2 s s1 trivial
    rw [s0, (inw_1 S).1] at this
    rw [(hb.1.2.gt s1).2.2.1, this]
    cases va (fg + gC s) <;> simp
  refine cns_bij (V := fun s => gtp S c0 s ∧ tyl S s = 0 ∧ va (fg + gC s) = true) (f := gC) (g := gR) (fun s hs => ⟨(hb.1.1.gt hs.1).1, decide_eq_true ⟨by rw [(hb.isC hs.1).1, hs.2.1]; rfl, hs.2.2⟩⟩) (fun s hs => ⟨(hb.1.2.gt hs.1).1, decide_eq_true ⟨by rw [(hb.isC hs.1).2, hs.2.1]; rfl, (vv s hs.1 hs.2.1).mpr hs.2.2⟩⟩) (fun s t a b e => hb.1.1.gi a.1 b.1 e) (fun s t a b e => hb.1.2.gi a.1 b.1 e) (fun i hi pi => ?_) (fun i hi pi => ?_)
  · have pi := of_decide_eq_true pi
    obtain ⟨s, s1, s2⟩ := hb.1.1.gx hi
    exact ⟨s, ⟨s1, kc s s1 (by rw [s2]; exact pi.1), by rw [s2]; exact pi.2⟩, s2⟩
  · have pi := of_decide_eq_true pi
    obtain ⟨s, s1, s2⟩ := hb.1.2.gx hi
    have s0 := kz s s1 (by rw [s2]; exact pi.1)
    exact ⟨s, ⟨s1, s0, (vv s s1 s0).mp (by rw [s2]; exact pi.2)⟩, s2⟩
end VAS
