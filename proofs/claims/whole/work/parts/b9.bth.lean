/-! Counting: as many on both sides -/
theorem cns_del {q : Nat → Bool} {y m : Nat} (hy : q y = true) (hm : y < m) : cns q m = cns (fun i => if i = y then false else q i) m + 1 :=
  cns_up (p := fun i => if i = y then false else q i) (q := q) (j := y) (if_pos rfl) hy (fun i hi => if_neg hi) m hm
theorem php : ∀ n m (f : Nat → Nat) (p q : Nat → Bool), (∀ i, i < n → p i = true → f i < m ∧ q (f i) = true) → (∀ i j, i < n → j < n → p i = true → p j = true → f i = f j → i = j) → cns p n ≤ cns q m
  | 0, m, f, p, q, _, _ => Nat.zero_le _
  | n + 1, m, f, p, q, h1, h2 => by
    have e1 : cns p (n + 1) = cns p n + (if p n = true then 1 else 0) := rfl
    rw [e1]
    by_cases pn : p n = true
    · rw [if_pos pn]
      obtain ⟨a, b⟩ := h1 n (by omega) pn
      have r := php n m f p (fun i => if i = f n then false else q i) (fun i hi pi => by
        obtain ⟨x, y⟩ := h1 i (by omega) pi
        refine ⟨x, ?_⟩
        show (if f i = f n then false else q (f i)) = true
        rw [if_neg (fun z => by have := h2 i n (by omega) (by omega) pi pn z; omega)]
        exact y) (fun i j hi hj => h2 i j (by omega) (by omega))
      rw [cns_del b a]
      omega
    · rw [if_neg pn]
      exact php n m f p q (fun i hi => h1 i (by omega)) (fun i j hi hj => h2 i j (by omega) (by omega))
/-- a correspondence told by a third set -/
theorem cns_bij {α : Type} {V : α → Prop} {f g : α → Nat} {n m : Nat} {p q : Nat → Bool} (hf : ∀ s, V s → f s < n ∧ p (f s) = true) (hg : ∀ s, V s → g s < m ∧ q (g s) = true) (fi : ∀ s t, V s → V t → f s = f t → s = t) (gi : ∀ s t, V s → V t → g s = g t → s = t) (fs : ∀ i, i < n → p i = true → ∃ s, V s ∧ f s = i) (gs_ : ∀ i, i < m → q i = true → ∃ s, V s ∧ g s = i) : cns p n = cns q m := by
  have one : ∀ (n m : Nat) (p q : Nat → Bool) (f g : α → Nat), (∀ s, V s → g s < m ∧ q (g s) = true) → (∀ s t, V s → V t → g s = g t → s = t) → (∀ i, i < n → p i = true → ∃ s, V s ∧ f s = i) → cns p n ≤ cns q m := by
    intro n m p q f g hg gi fs
    have ch : ∀ i, ∃ y, (i < n → p i = true → ∃ s, V s ∧ f s = i ∧ g s = y) := fun i => by
      by_cases h : i < n ∧ p i = true
      · obtain ⟨s, s1, s2⟩ := fs i h.1 h.2
        exact ⟨g s, fun _ _ => ⟨s, s1, s2, rfl⟩⟩
      · exact ⟨0, fun a b => absurd ⟨a, b⟩ h⟩
    have hF : ∀ i, i < n → p i = true → ∃ s, V s ∧ f s = i ∧ g s = Classical.choose (ch i) := fun i => Classical.choose_spec (ch i)
    refine php n m (fun i => Classical.choose (ch i)) p q (fun i hi pi => ?_) (fun i j hi hj pi pj e => ?_)
    · obtain ⟨s, s1, -, s3⟩ := hF i hi pi
      show Classical.choose (ch i) < m ∧ q (Classical.choose (ch i)) = true
      rw [← s3]; exact hg s s1
    · obtain ⟨s, s1, s2, s3⟩ := hF i hi pi
      obtain ⟨t, t1, t2, t3⟩ := hF j hj pj
      have e : Classical.choose (ch i) = Classical.choose (ch j) := e
      rw [← s3, ← t3] at e
      rw [← s2, ← t2, gi s t s1 t1 e]
  exact Nat.le_antisymm (one n m p q f g hg gi fs) (one m n q p g f hf fi gs_)
theorem cns_t : ∀ n, cns (fun _ => true) n = n
  | 0 => rfl
  | n + 1 => by show cns (fun _ => true) n + 1 = n + 1; rw [cns_t n]
/-! Both boards: Z, fi, si the class's; Y, G the reference's -/
/-- gates on paths -/
def gtp (S : PS) (c0 : Nat) (s : List Nat) : Prop := vin S c0 s ∧ tyl S s ≤ 1
def BB (ft tv gp : Nat → Int32) (S : PS) (c0 fg : Nat) (bC gC : List Nat → Nat) (Z : LZ) (fi si : Nat → Nat) (bR gR : List Nat → Nat) (Y : LY) (G : (Nat → Nat) × (Nat → Nat)) : Prop :=
  (LTF Sum.inl Sum.inr (Sum.inr 0) ft tv gp S c0 bC gC Z.2.1 Z.1 Z.2.2.2.2.2.2.2.2 (KGC S fg Z) ∧ LTF eR cR 1 ft tv gp S c0 bR gR Y.2.1 Y.1.1 Y.1.2.2 (KGR S Y)) ∧ fg = 2 + inw S (c0 + 2) ∧
  (∀ s, gtp S c0 s → (fi (gC s) = cod fg gC (sr_ ft tv gp S c0 s 0) ∧ si (gC s) = cod fg gC (sr_ ft tv gp S c0 s (inw S (tyl S s) - 1))) ∧ RV S c0 bR Y (sr_ ft tv gp S c0 s 0) (G.1 (gR s)) ∧ (tyl S s = 0 → RV S c0 bR Y (sr_ ft tv gp S c0 s 1) (G.2 (gR s)))) ∧
  ∀ s j, gtp S c0 s → j < inw S (tyl S s) → match sr_ ft tv gp S c0 s j with
    | .inl n => n < fg
    | .inr t => gtp S c0 t
section BBS
variable {ft tv gp : Nat → Int32} {S : PS} {c0 fg : Nat} {bC gC bR gR : List Nat → Nat} {Z : LZ} {fi si : Nat → Nat} {Y : LY} {G : (Nat → Nat) × (Nat → Nat)}
theorem LTF.gt {X : Type} {eb ec : Nat → X} {e0 : X} {b g : List Nat → Nat} {fr : Nat → X} {n1 m1 : Nat} {K : Nat → Nat → Nat → Prop} (h : LTF eb ec e0 ft tv gp S c0 b g fr n1 m1 K) {s : List Nat} (hs : gtp S c0 s) : g s < m1 ∧ K (g s) (b s) (tyl S s) := ⟨((h.2.2.1.1.1 s hs.1).2 hs.2).1.2, ((h.2.2.1.1.1 s hs.1).2 hs.2).2⟩
theorem LTF.gi {X : Type} {eb ec : Nat → X} {e0 : X} {b g : List Nat → Nat} {fr : Nat → X} {n1 m1 : Nat} {K : Nat → Nat → Nat → Prop} (h : LTF eb ec e0 ft tv gp S c0 b g fr n1 m1 K) {s t : List Nat} (hs : gtp S c0 s) (ht : gtp S c0 t) (e : g s = g t) : s = t := by
  by_cases z : s = t
  · exact z
  · exact absurd e ((h.2.2.1.1.2.1 s t hs.1 ht.1 z).2 hs.2 ht.2)
theorem LTF.gx {X : Type} {eb ec : Nat → X} {e0 : X} {b g : List Nat → Nat} {fr : Nat → X} {n1 m1 : Nat} {K : Nat → Nat → Nat → Prop} (h : LTF eb ec e0 ft tv gp S c0 b g fr n1 m1 K) {n : Nat} (hn : n < m1) : ∃ s, gtp S c0 s ∧ g s = n := by
  obtain ⟨s, s1, s2, s3⟩ := h.2.2.1.1.2.2 n (Nat.zero_le _) hn
  exact ⟨s, ⟨s1, s2⟩, s3⟩
theorem inw_1 (S : PS) : inw S 0 = 2 ∧ inw S 1 = 1 := ⟨by unfold inw; rw [if_neg (by decide)]; rfl, by unfold inw; rw [if_neg (by decide)]; rfl⟩
/-- the same number of gates, and of Nands -/
theorem BB.cnt (h : BB ft tv gp S c0 fg bC gC Z fi si bR gR Y G) : Z.2.2.2.2.2.2.2.2 = Y.1.2.2 ∧ cns (fun j => decide (Z.2.2.1 j = false)) Z.2.2.2.2.2.2.2.2 = cns (fun j => decide (Y.2.2.2.2.2.2 j = false)) Y.1.2.2 := by
  obtain ⟨⟨h1, h2⟩, -⟩ := h
  constructor
  · have := cns_bij (V := gtp S c0) (f := gC) (g := gR) (n := Z.2.2.2.2.2.2.2.2) (m := Y.1.2.2) (p := fun _ => true) (q := fun _ => true) (fun s hs => ⟨(h1.gt hs).1, rfl⟩) (fun s hs => ⟨(h2.gt hs).1, rfl⟩) (fun s t a b e => h1.gi a b e) (fun s t a b e => h2.gi a b e) (fun i hi _ => h1.gx hi) (fun i hi _ => h2.gx hi)
    rw [cns_t, cns_t] at this; exact this
  · refine cns_bij (V := fun s => gtp S c0 s ∧ tyl S s = 0) (f := gC) (g := gR) (fun s hs => ⟨(h1.gt hs.1).1, decide_eq_true ?_⟩) (fun s hs => ⟨(h2.gt hs.1).1, decide_eq_true ?_⟩) (fun s t a b e => h1.gi a.1 b.1 e) (fun s t a b e => h2.gi a.1 b.1 e) (fun i hi pi => ?_) (fun i hi pi => ?_)
    · rw [(h1.gt hs.1).2.2.2.2.1, hs.2]; rfl
    · rw [(h2.gt hs.1).2.2.2, hs.2]; rfl
    · obtain ⟨s, s1, s2⟩ := h1.gx hi
      have k := (h1.gt s1).2.2.2.2.1
      rw [s2, of_decide_eq_true pi] at k
      have k := of_decide_eq_false k.symm
      exact ⟨s, ⟨s1, by have := s1.2; omega⟩, s2⟩
    · obtain ⟨s, s1, s2⟩ := h2.gx hi
      have k := (h2.gt s1).2.2.2
      rw [s2, of_decide_eq_true pi] at k
      have k := of_decide_eq_false k.symm
      exact ⟨s, ⟨s1, by have := s1.2; omega⟩, s2⟩
theorem BB.isC (h : BB ft tv gp S c0 fg bC gC Z fi si bR gR Y G) {s : List Nat} (hs : gtp S c0 s) : Z.2.2.1 (gC s) = decide (tyl S s = 1) ∧ Y.2.2.2.2.2.2 (gR s) = decide (tyl S s = 1) := ⟨(h.1.1.gt hs).2.2.2.2.1, (h.1.2.gt hs).2.2.2⟩
/-- the class: a signal is a Nand's -/
theorem BB.depC (h : BB ft tv gp S c0 fg bC gC Z fi si bR gR Y G) {r : SR} (hr : match r with | .inl n => n < fg | .inr t => gtp S c0 t) {j : Nat} (hj : j < Z.2.2.2.2.2.2.2.2) (e : cod fg gC r = fg + j) : ∃ t, r = .inr t ∧ gtp S c0 t ∧ gC t = j := by
  rcases r with n | t
  · have hr : n < fg := hr
    have e : n = fg + j := e
    omega
  · have e : fg + gC t = fg + j := e
    exact ⟨t, rfl, hr, by omega⟩
/-- the reference: a bit is a Nand's -/
theorem BB.depR (h : BB ft tv gp S c0 fg bC gC Z fi si bR gR Y G) {r : SR} {v : Nat} (hr : RV S c0 bR Y r v) {y : Nat} : dep Y.2.2.2.2.2.2 Y.2.2.1 v y ↔ ∃ t, r = .inr t ∧ gtp S c0 t ∧ gR t = y ∧ tyl S t = 0 := by
  constructor
  · rintro ⟨d1, d2, d3⟩
    rcases r with n | t
    · rcases n with _ | _ | n
      · have hr : 2 ≤ v ∧ Y.2.2.1 (v - 2) = 0 ∧ inw S (c0 + 2) ≤ v - 2 ∧ v - 2 < Y.1.1 := hr
        rw [hr.2.1] at d2; omega
      · have hr : v = 0 := hr
        omega
      · have hr : v = n + 2 ∧ n < inw S (c0 + 2) ∧ Y.2.2.1 n = 0 := hr
        rw [hr.1, Nat.add_sub_cancel, hr.2.2] at d2; omega
    · have hr : v = bR t + inw S (tyl S t) + 2 ∧ vin S c0 t ∧ tyl S t ≤ 1 := hr
      have gt_ : gtp S c0 t := ⟨hr.2.1, hr.2.2⟩
      have K := (h.1.2.gt gt_).2
      rw [hr.1, Nat.add_sub_cancel, K.1] at d2
      have ey : gR t = y := by omega
      rw [← ey, K.2.2] at d3
      have := of_decide_eq_false d3
      exact ⟨t, rfl, gt_, ey, by have := hr.2.2; omega⟩
  · rintro ⟨t, rfl, g1, g2, g3⟩
    have hr : v = bR t + inw S (tyl S t) + 2 ∧ vin S c0 t ∧ tyl S t ≤ 1 := hr
    have K := (h.1.2.gt g1).2
    refine ⟨by omega, by rw [hr.1, Nat.add_sub_cancel, K.1, g2], ?_⟩
    rw [← g2, K.2.2, g3]; rfl
/-- a Nand's inputs, on both sides -/
theorem BB.in2 (h : BB ft tv gp S c0 fg bC gC Z fi si bR gR Y G) {s : List Nat} (hs : gtp S c0 s) (h0 : tyl S s = 0) : (fi (gC s) = cod fg gC (sr_ ft tv gp S c0 s 0) ∧ si (gC s) = cod fg gC (sr_ ft tv gp S c0 s 1)) ∧ RV S c0 bR Y (sr_ ft tv gp S c0 s 0) (G.1 (gR s)) ∧ RV S c0 bR Y (sr_ ft tv gp S c0 s 1) (G.2 (gR s)) := by
  obtain ⟨a, b, c⟩ := h.2.2.1 s hs
  rw [h0, (inw_1 S).1] at a
  exact ⟨a, b, c h0⟩
theorem BB.sg (h : BB ft tv gp S c0 fg bC gC Z fi si bR gR Y G) {s : List Nat} (hs : gtp S c0 s) (h0 : tyl S s = 0) {j : Nat} (hj : j < 2) : match sr_ ft tv gp S c0 s j with | .inl n => n < fg | .inr t => gtp S c0 t := h.2.2.2 s j hs (by rw [h0, (inw_1 S).1]; exact hj)
/-- a rank of one side is a rank of the other -/
theorem BB.rkC (h : BB ft tv gp S c0 fg bC gC Z fi si bR gR Y G) {Lv : Nat → Nat} (hr : RKN Z.2.2.1 fi si fg Z.2.2.2.2.2.2.2.2 Lv) : ∃ Lw, RKR Y.2.2.2.2.2.2 Y.2.2.1 G.1 G.2 Y.1.2.2 Lw := by
  have ch : ∀ y, ∃ w, ∀ s, gtp S c0 s → gR s = y → w = Lv (gC s) := fun y => by
    by_cases e : ∃ s, gtp S c0 s ∧ gR s = y
    · obtain ⟨s, s1, s2⟩ := e
      exact ⟨Lv (gC s), fun t t1 t2 => by rw [h.1.2.gi s1 t1 (s2.trans t2.symm)]⟩
    · exact ⟨0, fun s a b => absurd ⟨s, a, b⟩ e⟩
  refine ⟨fun y => Classical.choose (ch y), fun x y hx hy gx hd => ?_⟩
  obtain ⟨s, s1, s2⟩ := h.1.2.gx hx
  have k0 : tyl S s = 0 := by
    have := (h.isC s1).2
    rw [s2, gx] at this
    have := of_decide_eq_false this.symm
    have := s1.2; omega
  obtain ⟨a, b, c⟩ := h.in2 s1 k0
  rw [s2] at b c
  have fin : ∀ t, gtp S c0 t → gR t = y → tyl S t = 0 → (fi (gC s) = fg + gC t ∨ si (gC s) = fg + gC t) → Classical.choose (ch y) < Classical.choose (ch x) := fun t t1 t2 t3 t4 => by
    rw [Classical.choose_spec (ch y) t t1 t2, Classical.choose_spec (ch x) s s1 s2]
    exact hr (gC s) (gC t) (h.1.1.gt s1).1 (h.1.1.gt t1).1 (by rw [(h.isC s1).1, k0]; rfl) (by rw [(h.isC t1).1, t3]; rfl) t4
  rcases hd with hd | hd
  · obtain ⟨t, e, t1, t2, t3⟩ := (h.depR b).mp hd
    exact fin t t1 t2 t3 (Or.inl (by rw [a.1, e]; rfl))
  · obtain ⟨t, e, t1, t2, t3⟩ := (h.depR c).mp hd
    exact fin t t1 t2 t3 (Or.inr (by rw [a.2, e]; rfl))
theorem BB.rkR (h : BB ft tv gp S c0 fg bC gC Z fi si bR gR Y G) {Lw : Nat → Nat} (hr : RKR Y.2.2.2.2.2.2 Y.2.2.1 G.1 G.2 Y.1.2.2 Lw) : ∃ Lv, RKN Z.2.2.1 fi si fg Z.2.2.2.2.2.2.2.2 Lv := by
  have ch : ∀ y, ∃ w, ∀ s, gtp S c0 s → gC s = y → w = Lw (gR s) := fun y => by
    by_cases e : ∃ s, gtp S c0 s ∧ gC s = y
    · obtain ⟨s, s1, s2⟩ := e
      exact ⟨Lw (gR s), fun t t1 t2 => by rw [h.1.1.gi s1 t1 (s2.trans t2.symm)]⟩
    · exact ⟨0, fun s a b => absurd ⟨s, a, b⟩ e⟩
  refine ⟨fun y => Classical.choose (ch y), fun j j' hj hj' nj nj' hd => ?_⟩
  obtain ⟨s, s1, s2⟩ := h.1.1.gx hj
  obtain ⟨t, t1, t2⟩ := h.1.1.gx hj'
  have kz : ∀ u i, gtp S c0 u → gC u = i → Z.2.2.1 i = false → tyl S u = 0 := fun u i u1 u2 u3 => by
    have := (h.isC u1).1
    rw [u2, u3] at this
    have := of_decide_eq_false this.symm
    have := u1.2; omega
  have k0 := kz s j s1 s2 nj
  have k1 := kz t j' t1 t2 nj'
  obtain ⟨a, b, c⟩ := h.in2 s1 k0
  rw [s2] at a
  show Classical.choose (ch j') < Classical.choose (ch j)
  rw [Classical.choose_spec (ch j') t t1 t2, Classical.choose_spec (ch j) s s1 s2]
  refine hr (gR s) (gR t) (h.1.2.gt s1).1 (h.1.2.gt t1).1 (by rw [(h.isC s1).2, k0]; rfl) ?_
  rcases hd with hd | hd
  · obtain ⟨u, e, u1, u2⟩ := h.depC (h.sg s1 k0 (j := 0) (by decide)) hj' (a.1.symm.trans hd)
    have : u = t := h.1.1.gi u1 t1 (u2.trans t2.symm)
    subst this
    exact Or.inl ((h.depR b).mpr ⟨u, e, t1, rfl, k1⟩)
  · obtain ⟨u, e, u1, u2⟩ := h.depC (h.sg s1 k0 (j := 1) (by decide)) hj' (a.2.symm.trans hd)
    have : u = t := h.1.1.gi u1 t1 (u2.trans t2.symm)
    subst this
    exact Or.inr ((h.depR c).mpr ⟨u, e, t1, rfl, k1⟩)
/-- the levels are the same -/
theorem BB.lev (h : BB ft tv gp S c0 fg bC gC Z fi si bR gR Y G) {T : AS} {O : OR} (hT : NI Z.2.2.1 fi si fg Z.2.2.2.2.2.2.2.2 0 T) (hT1 : ∀ j, j < Z.2.2.2.2.2.2.2.2 → T.2.1 (fg + j) ≠ 1) (hO : OI Y.2.2.2.2.2.2 Y.2.2.1 G.1 G.2 Y.1.2.2 O) (hO1 : ∀ x, x < Y.1.2.2 → Y.2.2.2.2.2.2 x = false → O.1 x ≠ none) : ∀ N s, T.2.1 (fg + gC s) < N → gtp S c0 s → tyl S s = 0 → O.1 (gR s) = some (T.2.1 (fg + gC s) - 2) ∧ 3 ≤ T.2.1 (fg + gC s)
  | 0, _, hN, _, _ => by omega
  | N + 1, s, hN, hs, h0 => by
    have nd : ∀ t, gtp S c0 t → tyl S t = 0 → 3 ≤ T.2.1 (fg + gC t) := fun t t1 t0 => by
      have g1 := (h.1.1.gt t1).1
      have d := hT.2.2.2.1 (gC t) g1
      have n2 : T.2.1 (fg + gC t) ≠ 2 := fun z => by
        have := d.mpr z
        rw [(h.isC t1).1, t0] at this; cases this
      have n1 := hT1 (gC t) g1
      have n0 : T.2.1 (fg + gC t) ≠ 0 := fun z => by obtain ⟨i, hi, -⟩ := hT.2.2.1 (gC t) g1 z; omega
      omega
    have h3 := nd s hs h0
    have gs1 := (h.1.1.gt hs).1
    obtain ⟨a1, a2, a3, -⟩ := hT.2.2.2.2.2.1 (gC s) gs1 h3
    obtain ⟨b1, b2, b3⟩ := h.in2 hs h0
    rcases eO : O.1 (gR s) with _ | v
    · exact absurd eO (hO1 (gR s) (h.1.2.gt hs).1 (by rw [(h.isC hs).2, h0]; rfl))
    obtain ⟨-, c2, -⟩ := hO.1 (gR s) v (h.1.2.gt hs).1 eO
    obtain ⟨x, y, ex, ey, ev⟩ := omx_s c2
    have a3 : T.2.1 (fg + gC s) = 1 + max (T.2.1 (fi (gC s)) - 2) (T.2.1 (si (gC s)) - 2) + 2 := a3
    have one : ∀ j w u z, j < 2 → u = cod fg gC (sr_ ft tv gp S c0 s j) → RV S c0 bR Y (sr_ ft tv gp S c0 s j) w → lo Y.2.2.1 Y.2.2.2.2.2.2 O.1 w = some z → T.2.1 u < T.2.1 (fg + gC s) ∨ T.2.1 u ≤ 2 → z = T.2.1 u - 2 := fun j w u z hj hu hw hz hlt => by
      have sg := h.sg hs h0 (j := j) hj
      rcases er : sr_ ft tv gp S c0 s j with n | t
      · rw [er] at hu hw sg
        have hu : u = n := hu
        have sg : n < fg := sg
        rw [lo_no (fun y hy => by obtain ⟨t, e, -⟩ := (h.depR hw).mp hy; cases e)] at hz
        have : T.2.1 u = 2 := by rw [hu]; exact hT.2.2.2.2.1 n sg
        have := Option.some.inj hz
        omega
      · rw [er] at hu hw sg
        have hu : u = fg + gC t := hu
        have sg : gtp S c0 t := sg
        by_cases t0 : tyl S t = 0
        · have d : dep Y.2.2.2.2.2.2 Y.2.2.1 w (gR t) := (h.depR hw).mpr ⟨t, rfl, sg, rfl, t0⟩
          rw [lo_dep d] at hz
          have t3 := nd t sg t0
          rw [hu] at hlt
          have r := BB.lev h hT hT1 hO hO1 N t (by omega) sg t0
          rw [r.1] at hz
          have := Option.some.inj hz
          rw [hu]; omega
        · rw [lo_no (fun y hy => by obtain ⟨t', e, -, -, z0⟩ := (h.depR hw).mp hy; cases e; exact t0 z0)] at hz
          have : T.2.1 u = 2 := by
            rw [hu]
            exact (hT.2.2.2.1 (gC t) (h.1.1.gt sg).1).mp (by rw [(h.isC sg).1]; exact decide_eq_true (by have := sg.2; omega))
          have := Option.some.inj hz
          omega
    have x1 := one 0 (G.1 (gR s)) (fi (gC s)) x (by decide) b1.1 b2 ex (by omega)
    have y1 := one 1 (G.2 (gR s)) (si (gC s)) y (by decide) b1.2 b3 ey (by omega)
    refine ⟨?_, h3⟩
    congr 1
    omega
end BBS
