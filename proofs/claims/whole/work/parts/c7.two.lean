/-! Both boards: they are made, or not, alike -/
theorem bgl_x (X : LY) (J : Nat) : ∀ k i T n, (bg_l X J k i T).1 n = (if i ≤ n ∧ n < i + k then src X.2.2.1 X.2.1 J (X.2.2.2.2.2.1 n + 2) else T.1 n) ∧ (bg_l X J k i T).2 n = (if i ≤ n ∧ n < i + k then (if X.2.2.2.2.2.2 n = true then 1 else src X.2.2.1 X.2.1 J (X.2.2.2.2.2.1 n + 1 + 2)) else T.2 n)
  | 0, i, T, n => by
    have z : ¬ (i ≤ n ∧ n < i + 0) := by omega
    rw [if_neg z, if_neg z]; exact ⟨rfl, rfl⟩
  | k + 1, i, T, n => by
    have r := bgl_x X J k (i + 1) (bg_1 X J i T) n
    have e : bg_l X J (k + 1) i T = bg_l X J k (i + 1) (bg_1 X J i T) := rfl
    rw [e]
    by_cases z : n = i
    · have q : ¬ (i + 1 ≤ n ∧ n < i + 1 + k) := by omega
      have q2 : i ≤ n ∧ n < i + (k + 1) := by omega
      rw [if_neg q, if_neg q] at r
      rw [if_pos q2, if_pos q2, r.1, r.2, z]
      exact ⟨va_up_self _ _ _, va_up_self _ _ _⟩
    · have v1 : (bg_1 X J i T).1 n = T.1 n := va_up_ne _ _ z
      have v2 : (bg_1 X J i T).2 n = T.2 n := va_up_ne _ _ z
      rw [v1, v2] at r
      by_cases q : i ≤ n ∧ n < i + (k + 1)
      · have q2 : i + 1 ≤ n ∧ n < i + 1 + k := by omega
        rw [if_pos q2, if_pos q2] at r
        rw [if_pos q, if_pos q]; exact r
      · have q2 : ¬ (i + 1 ≤ n ∧ n < i + 1 + k) := by omega
        rw [if_neg q2, if_neg q2] at r
        rw [if_neg q, if_neg q]; exact r
theorem or0_x {gd : Nat → Bool} : ∀ k i (T : (Nat → Option Nat) × Nat) n, (or_0 gd k i T).1 n = if i ≤ n ∧ n < i + k then none else T.1 n
  | 0, i, T, n => by rw [if_neg (by omega)]; rfl
  | k + 1, i, T, n => by
    have r := or0_x (gd := gd) k (i + 1) (va_up T.1 i none, if gd i = true then T.2 else T.2 + 1) n
    have e : or_0 gd (k + 1) i T = or_0 gd k (i + 1) (va_up T.1 i none, if gd i = true then T.2 else T.2 + 1) := rfl
    rw [e, r]
    by_cases z : n = i
    · rw [if_neg (show ¬ (i + 1 ≤ n ∧ n < i + 1 + k) by omega), if_pos (show i ≤ n ∧ n < i + (k + 1) by omega), z]; exact va_up_self _ _ _
    · by_cases q : i ≤ n ∧ n < i + (k + 1)
      · rw [if_pos (show i + 1 ≤ n ∧ n < i + 1 + k by omega), if_pos q]
      · rw [if_neg (show ¬ (i + 1 ≤ n ∧ n < i + 1 + k) by omega), if_neg q]; exact va_up_ne _ _ z
theorem cns_0 {p : Nat → Bool} : ∀ n, (∀ j, j < n → p j = false) → cns p n = 0
  | 0, _ => rfl
  | n + 1, h => by
    show cns p n + (if p n = true then 1 else 0) = 0
    rw [cns_0 n (fun j hj => h j (by omega)), h n (by omega)]; rfl
theorem OI_st {gd : Nat → Bool} {gob ga gb : Nat → Nat} {gc : Nat} (gl : Nat → Option Nat) (go : Nat → Nat) : OI gd gob ga gb gc ((or_0 gd gc 0 (gl, 0)).1, go, 0, true) := by
  have n0 : ∀ x, x < gc → (or_0 gd gc 0 (gl, 0)).1 x = none := fun x hx => by rw [or0_x, if_pos (by omega)]
  refine ⟨fun x v hx e => ?_, fun p hp => absurd hp (Nat.not_lt_zero _), fun p p' _ hp => absurd hp (Nat.not_lt_zero _), cns_0 gc (fun j hj => ?_)⟩
  · have e : (or_0 gd gc 0 (gl, 0)).1 x = some v := e
    rw [n0 x hx] at e; cases e
  · exact decide_eq_false (fun z => z (n0 j hj))
/-- an order is a rank -/
theorem NI.rank {isD : Nat → Bool} {fi si : Nat → Nat} {fg ng : Nat} {T : AS} (N : NI isD fi si fg ng 0 T) (h1 : ∀ j, j < ng → T.2.1 (fg + j) ≠ 1) : RKN isD fi si fg ng (fun j => T.2.1 (fg + j)) := fun j j' hj hj' dj dj' hd => by
  have n3 : ∀ j, j < ng → isD j = false → 3 ≤ T.2.1 (fg + j) := fun j hj dj => by
    have a := h1 j hj
    have b : T.2.1 (fg + j) ≠ 2 := fun z => by rw [(N.2.2.2.1 j hj).mpr z] at dj; cases dj
    have c : T.2.1 (fg + j) ≠ 0 := fun z => by obtain ⟨i, hi, -⟩ := N.2.2.1 j hj z; omega
    omega
  have e := (N.2.2.2.2.2.1 j hj (n3 j hj dj)).2.2.1
  have e : T.2.1 (fg + j) = 1 + max (T.2.1 (fi j) - 2) (T.2.1 (si j) - 2) + 2 := e
  have l := n3 j' hj' dj'
  show T.2.1 (fg + j') < T.2.1 (fg + j)
  rcases hd with q | q <;> rw [q] at e <;> omega
section TWO
variable {ft tv gp : Nat → Int32} {S : PS} {rk : Nat → Nat} {c0 : Nat}
theorem rv_b {b g : List Nat → Nat} {Y : LY} (h : LTF eR cR 1 ft tv gp S c0 b g Y.2.1 Y.1.1 Y.1.2.2 (KGR S Y)) (hg : GOI Y) (hz : Y.1.1 ≤ 8000) (h0 : c0 < S.1 15) (ho : 2 ≤ ow S c0) {r : SR} {v : Nat} (hr : RV S c0 b Y r v) : v < 8002 ∧ Y.2.2.1 (v - 2) ≤ Y.1.2.2 := by
  have z0 : Y.2.2.1 0 = 0 := by
    have := goi_0 h hg (s := []) (j := 0) trivial (by rw [tyr_n]; unfold pbn; rw [if_pos (by omega)]; show 0 < ow S c0; omega) (fun z => by rw [tyr_n] at z; omega)
    rw [h.1] at this; exact this
  rcases r with n | t
  · rcases n with _ | _ | n
    · have hr : 2 ≤ v ∧ Y.2.2.1 (v - 2) = 0 ∧ inw S (c0 + 2) ≤ v - 2 ∧ v - 2 < Y.1.1 := hr
      exact ⟨by omega, by rw [hr.2.1]; exact Nat.zero_le _⟩
    · have hr : v = 0 := hr
      subst hr
      exact ⟨by omega, by show Y.2.2.1 0 ≤ _; rw [z0]; exact Nat.zero_le _⟩
    · have hr : v = n + 2 ∧ n < inw S (c0 + 2) ∧ Y.2.2.1 n = 0 := hr
      have i1 := inw_le S (c0 + 2)
      unfold pbn at i1; rw [if_pos (by omega)] at i1
      have i1 : inw S (c0 + 2) ≤ ow S c0 := i1
      have i2 := h.2.1
      exact ⟨by omega, by rw [hr.1, Nat.add_sub_cancel, hr.2.2]; exact Nat.zero_le _⟩
  · have hr : v = b t + inw S (tyl S t) + 2 ∧ vin S c0 t ∧ tyl S t ≤ 1 := hr
    have gt : gtp S c0 t := hr.2
    have K := h.gt gt
    have l1 := (h.2.2.1.1.1 t gt.1).1.2
    have l2 := pbn_g S gt.2
    exact ⟨by omega, by rw [hr.1, Nat.add_sub_cancel, K.2.1]; exact K.1⟩
/-- where the counts fit, both sides lay out the same board; they find an order, or both find none -/
theorem two_boards (hb : BRD ft gp S rk c0) (h4 : a44 S) (hk : kb_p ft gp S) {A6 : T6} (hz : BIZ A6) (st od : Nat → Nat) {B : LY} (hfr : ∀ i, B.2.1 i < 8002) (hgo : ∀ i, B.2.2.1 i ≤ 300) {N G0 : (Nat → Nat) × (Nat → Nat)} {gl : Nat → Option Nat} {go : Nat → Nat} (hft : (rdN S N).1 c0 ≤ 300 ∧ (rdN S N).2 c0 ≤ 8000) {Y : LY} (hY : Y = bl_all ft tv gp S 8001 (np (ow S) (2 + c0) ((0, 0, 0), B.2))) {Gr : (Nat → Nat) × (Nat → Nat)} (hG : Gr = rbG 8001 Y G0) {O : OR} (hO : O = rbO Y Gr gl go) :
    (bzl ft tv gp S c0 A6).1 = true ∧ bsok Y 8001 ∧ bok Y Gr O ∧ ∃ bC gC bR gR, BB ft tv gp S c0 (2 + inw S (c0 + 2)) bC gC (bzl ft tv gp S c0 A6).2 (bFs ft tv gp S c0 A6).1 (bFs ft tv gp S c0 A6).2 bR gR Y Gr ∧ OI Y.2.2.2.2.2.2 Y.2.2.1 Gr.1 Gr.2 Y.1.2.2 O ∧ ((bA ft tv gp S c0 A6 st od).1 = true ↔ O.2.2.1 = rbK Y gl) ∧ ((bA ft tv gp S c0 A6 st od).1 = true → NI (bzl ft tv gp S c0 A6).2.2.2.1 (bFs ft tv gp S c0 A6).1 (bFs ft tv gp S c0 A6).2 (2 + inw S (c0 + 2)) (bzl ft tv gp S c0 A6).2.2.2.2.2.2.2.2.2 0 (bA ft tv gp S c0 A6 st od).2 ∧ (∀ j, j < (bzl ft tv gp S c0 A6).2.2.2.2.2.2.2.2.2 → (bA ft tv gp S c0 A6 st od).2.2.1 (2 + inw S (c0 + 2) + j) ≠ 1) ∧ ∀ x, x < Y.1.2.2 → Y.2.2.2.2.2.2 x = false → O.1 x ≠ none) ∧
      ∀ j, j < ow S c0 → sgo (bzl ft tv gp S c0 A6).2.2.1 (bzl ft tv gp S c0 A6).2.1 j = cod (2 + inw S (c0 + 2)) gC (sr_ ft tv gp S c0 [] j) ∧ RV S c0 bR Y (sr_ ft tv gp S c0 [] j) (src Y.2.2.1 Y.2.1 8001 (j + 2)) ∧ stp Y.2.2.1 Y.2.1 (src Y.2.2.1 Y.2.1 8001 (j + 2)) ∧ src Y.2.2.1 Y.2.1 8001 (j + 2) < 8002 := by
  obtain ⟨wf, hr, m23, ho, hi, hw, h0⟩ := id hb
  have hfx := bfix_of hr wf h4 ho N
  obtain ⟨bR, gR, l1, l2, l3, l4⟩ := rbs_ltf hb hfx hk hft.1 hft.2 hfr hgo hY
  have ht : (bzl ft tv gp S c0 A6).1 = true := by
    have q := ((lay_cn (ft := ft) (tv := tv) (gp := gp) (fg := 2 + inw S (c0 + 2)) hr wf 8 c0 0 (bz0 S c0 A6) h0 (by have := hr.2.1 c0 h0; have := hr.2.2; omega) ⟨hw, Nat.zero_le _⟩ (by show ow S c0 + ow S c0 ≤ _; omega)).1).mpr
    have f := (fits_of hr wf h4 N h0).mp hft
    exact q ⟨by show ow S c0 + _ ≤ _; omega, by show 0 + _ ≤ _; omega⟩
  obtain ⟨bC, gC, m1, m2, m3, m4, m5, m6, m7, m8⟩ := bld_f (tv := tv) hb hz ht st od
  have hzb : Y.1.1 ≤ 8000 := by have := l4.1; omega
  have hgc : Y.1.2.2 ≤ 300 := by have := l4.2.1; omega
  have sp := fun s j hv hj => src_p (s := s) (j := j) l1 l2 l3 wf h0 ho hzb hr.1 hv hj
  have gx : ∀ x, x < Y.1.2.2 → ∃ s, gtp S c0 s ∧ gR s = x ∧ Y.2.2.2.2.2.1 x = bR s ∧ Y.2.2.2.2.2.2 x = decide (tyl S s = 1) := fun x hx => by
    obtain ⟨s, s1, s2⟩ := l1.gx hx
    have K := (l1.gt s1).2.2
    rw [s2] at K
    exact ⟨s, s1, s2, K.1, K.2⟩
  have Gx := fun n => bgl_x Y 8001 Y.1.2.2 0 G0 n
  have G1 : ∀ s, gtp S c0 s → Gr.1 (gR s) = src Y.2.2.1 Y.2.1 8001 (bR s + 0 + 2) ∧ Gr.2 (gR s) = if tyl S s = 1 then 1 else src Y.2.2.1 Y.2.1 8001 (bR s + 1 + 2) := fun s hs => by
    have K := l1.gt hs
    have q : 0 ≤ gR s ∧ gR s < 0 + Y.1.2.2 := by have := K.1; omega
    have e := Gx (gR s)
    rw [if_pos q, if_pos q, K.2.2.1, K.2.2.2] at e
    rw [hG]
    refine ⟨e.1, e.2.trans ?_⟩
    by_cases t : tyl S s = 1
    · rw [decide_eq_true t, if_pos rfl, if_pos t]
    · rw [decide_eq_false t, if_neg (by decide), if_neg t]
  have R1 : ∀ s, gtp S c0 s → RV S c0 bR Y (sr_ ft tv gp S c0 s 0) (Gr.1 (gR s)) ∧ (tyl S s = 0 → RV S c0 bR Y (sr_ ft tv gp S c0 s 1) (Gr.2 (gR s))) := fun s hs => by
    obtain ⟨v1, v2⟩ := gtp_t hs
    have pg := pbn_g S hs.2
    obtain ⟨e1, e2⟩ := G1 s hs
    rw [e1, e2]
    refine ⟨(sp s 0 v1 (by rw [v2]; omega)).1, fun t => ?_⟩
    rw [if_neg (by omega)]
    exact (sp s 1 v1 (by rw [v2, pg, t, (inw_1 S).1]; decide)).1
  have Gb : ∀ x, x < Y.1.2.2 → (Gr.1 x < 8002 ∧ Gr.2 x < 8002) ∧ Y.2.2.1 (Gr.1 x - 2) ≤ Y.1.2.2 ∧ Y.2.2.1 (Gr.2 x - 2) ≤ Y.1.2.2 := fun x hx => by
    obtain ⟨s, s1, s2, -⟩ := gx x hx
    have a := rv_b l1 l2 hzb h0 (ho c0 h0) (R1 s s1).1
    rw [s2] at a
    by_cases t : tyl S s = 0
    · have b := rv_b l1 l2 hzb h0 (ho c0 h0) ((R1 s s1).2 t)
      rw [s2] at b
      exact ⟨⟨a.1, b.1⟩, a.2, b.2⟩
    · have e := (G1 s s1).2
      rw [if_pos (by have := s1.2; omega), s2] at e
      have b := rv_b l1 l2 hzb h0 (ho c0 h0) (r := .inl 1) (v := 0) rfl
      exact ⟨⟨a.1, by rw [e]; decide⟩, a.2, by rw [e]; exact b.2⟩
  have dp : ∀ v y, Y.2.2.1 (v - 2) ≤ Y.1.2.2 → dep Y.2.2.2.2.2.2 Y.2.2.1 v y → y < Y.1.2.2 := fun v y hv hd => by
    have := hd.2.1; omega
  have hga : ∀ x y, x < Y.1.2.2 → dep Y.2.2.2.2.2.2 Y.2.2.1 (Gr.1 x) y → y < Y.1.2.2 := fun x y hx => dp _ y (Gb x hx).2.1
  have hgb : ∀ x y, x < Y.1.2.2 → dep Y.2.2.2.2.2.2 Y.2.2.1 (Gr.2 x) y → y < Y.1.2.2 := fun x y hx => dp _ y (Gb x hx).2.2
  obtain ⟨o1, o2⟩ := OI_w (gd := Y.2.2.2.2.2.2) (gob := Y.2.2.1) (ga := Gr.1) (gb := Gr.2) (gc := Y.1.2.2) hga hgb 302 ((or_0 Y.2.2.2.2.2.2 Y.1.2.2 0 (gl, 0)).1, go, 0, true) (OI_st gl go) (by show Y.1.2.2 < 0 + 302; omega)
  have hO' : or_w Y.2.2.2.2.2.2 Y.2.2.1 Gr.1 Gr.2 Y.1.2.2 302 ((or_0 Y.2.2.2.2.2.2 Y.1.2.2 0 (gl, 0)).1, go, 0, true) = O := hO.symm
  rw [hO'] at o1 o2
  have fgl : inw S (c0 + 2) ≤ 128 := hi
  have bb : BB ft tv gp S c0 (2 + inw S (c0 + 2)) bC gC (bzl ft tv gp S c0 A6).2 (bFs ft tv gp S c0 A6).1 (bFs ft tv gp S c0 A6).2 bR gR Y Gr := by
    refine ⟨⟨m1, l1⟩, rfl, fun s hs => ⟨m2 s hs, R1 s hs⟩, fun s j hs hj => ?_⟩
    obtain ⟨v1, v2⟩ := gtp_t hs
    have k := sr_ok m1 wf h0 v1 (j := j) (by rw [v2]; exact Nat.lt_of_lt_of_le hj (inw_le S _))
    rcases e : sr_ ft tv gp S c0 s j with n | t
    · rw [e] at k; exact k
    · rw [e] at k; exact k
  have an := ara_ni (isD := (bzl ft tv gp S c0 A6).2.2.2.1) m7.2.1.2 (fun x hx => (m4 x hx).1) (fun x hx => (m4 x hx).2) _ 0 _ (Nat.zero_add _) m5 m6 (fun j hj => absurd hj (Nat.not_lt_zero _))
  have cnt := or_cnt (O := O) o1 (gl := gl)
  have up : (bA ft tv gp S c0 A6 st od).1 = true → NI (bzl ft tv gp S c0 A6).2.2.2.1 (bFs ft tv gp S c0 A6).1 (bFs ft tv gp S c0 A6).2 (2 + inw S (c0 + 2)) (bzl ft tv gp S c0 A6).2.2.2.2.2.2.2.2.2 0 (bA ft tv gp S c0 A6 st od).2 ∧ (∀ j, j < (bzl ft tv gp S c0 A6).2.2.2.2.2.2.2.2.2 → (bA ft tv gp S c0 A6 st od).2.2.1 (2 + inw S (c0 + 2) + j) ≠ 1) ∧ ∀ x, x < Y.1.2.2 → Y.2.2.2.2.2.2 x = false → O.1 x ≠ none := fun ha => by
    obtain ⟨-, n1, n2⟩ := an.1 ha
    obtain ⟨Lw, rw_⟩ := bb.rkC (NI.rank n1 n2)
    exact ⟨n1, n2, fun x hx gx => or_full hga hgb rw_ o2 _ x (Nat.lt_succ_self _) hx gx⟩
  refine ⟨ht, fun x hx => ?_, ⟨hzb, hgc, l4.2.2.2.2.2.1, fun x hx => Gb x hx, ?_, fun p hp => ?_⟩, bC, gC, bR, gR, bb, o1, ⟨fun ha => cnt.mpr (up ha).2.2, fun e => ?_⟩, up, fun j hj => ?_⟩
  · obtain ⟨s, s1, s2, s3, s4⟩ := gx x hx
    obtain ⟨v1, v2⟩ := gtp_t s1
    have pg := pbn_g S s1.2
    rw [s3]
    refine ⟨(sp s 0 v1 (by rw [v2]; omega)).2, fun d => ?_⟩
    rw [s4] at d
    have t : tyl S s = 0 := by have := of_decide_eq_false d; have := s1.2; omega
    exact (sp s 1 v1 (by rw [v2, pg, t, (inw_1 S).1]; decide)).2
  · have := o1.2.2.2
    have := cns_le (fun j => decide (O.1 j ≠ none)) Y.1.2.2
    omega
  · obtain ⟨q1, q2, -⟩ := o1.2.1 p hp
    have gb := (Gb _ q1).1
    rcases eo : O.1 (O.2.1 p) with _ | v
    · exact absurd eo q2
    · have d := (o1.1 _ v q1 eo).1
      have z := l4.2.2.2.2.2.2 _ q1
      rw [d, if_neg (by decide)] at z
      exact ⟨by omega, by omega, gb.1, gb.2⟩
  · obtain ⟨Lv, rn⟩ := bb.rkR (OI.rank o1 (cnt.mp e))
    exact an.2 Lv rn
  · have pj : j < pbn S (tyr S c0 []) := by rw [tyr_n]; unfold pbn; rw [if_pos (by omega)]; exact hj
    have a := m3 [] j trivial pj
    have b := sp [] j trivial pj
    rw [m1.1, Nat.zero_add] at a
    rw [l1.1, Nat.zero_add] at b
    exact ⟨a, b.1, b.2, (rv_b l1 l2 hzb h0 (ho c0 h0) b.1).1⟩
end TWO
