/-! Both boards between calls -/
theorem orr_o {gd : Nat → Bool} {gob ga gb : Nat → Nat} : ∀ k i (O : OR) x, i + k ≤ x → (or_r gd gob ga gb k i O).1 x = O.1 x
  | 0, _, _, _, _ => rfl
  | k + 1, i, O, x, h => by
    show (or_r gd gob ga gb k (i + 1) (or_1 gd gob ga gb i O)).1 x = _
    rw [orr_o k (i + 1) _ x (by omega)]
    unfold or_1
    split
    · rfl
    · split
      · rfl
      · exact va_up_ne _ _ (by omega)
theorem orw_o {gd : Nat → Bool} {gob ga gb : Nat → Nat} {gc : Nat} : ∀ k (O : OR) x, gc ≤ x → (or_w gd gob ga gb gc k O).1 x = O.1 x
  | 0, _, _, _ => rfl
  | k + 1, O, x, h => by
    have e : (or_r gd gob ga gb gc 0 (O.1, O.2.1, O.2.2.1, false)).1 x = O.1 x := orr_o gc 0 _ x (by omega)
    show (if (or_r gd gob ga gb gc 0 (O.1, O.2.1, O.2.2.1, false)).2.2.2 = true then or_w gd gob ga gb gc k (or_r gd gob ga gb gc 0 (O.1, O.2.1, O.2.2.1, false)) else or_r gd gob ga gb gc 0 (O.1, O.2.1, O.2.2.1, false)).1 x = _
    split
    · rw [orw_o k _ x h]; exact e
    · exact e
/-- a gate's level is at most its place in the order -/
theorem OI.lvl {gd : Nat → Bool} {gob ga gb : Nat → Nat} {gc : Nat} {O : OR} (h : OI gd gob ga gb gc O) (hb : ∀ x, x < gc → gob (ga x - 2) ≤ gc ∧ gob (gb x - 2) ≤ gc) : ∀ N p, p < N → p < O.2.2.1 → ∀ v, O.1 (O.2.1 p) = some v → v ≤ p + 1
  | 0, p, hp, _, _, _ => absurd hp (Nat.not_lt_zero _)
  | N + 1, p, hp, h1, v, e => by
    obtain ⟨q1, q2, q3⟩ := h.2.1 p h1
    obtain ⟨r1, r2, -⟩ := h.1 _ v q1 e
    have key : ∀ z w, (z = ga (O.2.1 p) ∨ z = gb (O.2.1 p)) → lo gob gd O.1 z = some w → w ≤ p := fun z w hz hw => by
      unfold lo at hw
      by_cases a1 : z < 2
      · rw [if_pos a1] at hw; cases hw; exact Nat.zero_le _
      · rw [if_neg a1] at hw
        by_cases a2 : gob (z - 2) = 0
        · rw [if_pos a2] at hw; cases hw; exact Nat.zero_le _
        · rw [if_neg a2] at hw
          by_cases a3 : gd (gob (z - 2) - 1) = true
          · rw [if_pos a3] at hw; cases hw; exact Nat.zero_le _
          · rw [if_neg a3] at hw
            have d : dep gd gob z (gob (z - 2) - 1) := ⟨by omega, by omega, Bool.eq_false_iff.mpr a3⟩
            have l : gob (z - 2) - 1 < gc := by
              have b2 := hb _ q1
              rcases hz with hz | hz
              · rw [hz] at a2 ⊢; omega
              · rw [hz] at a2 ⊢; omega
            obtain ⟨p', p1, p2⟩ := q3 _ l (by rcases hz with hz | hz; exact Or.inl (by rw [← hz]; exact d); exact Or.inr (by rw [← hz]; exact d))
            rw [← p2] at hw
            have := OI.lvl h hb N p' (by omega) (by omega) w hw
            omega
    rcases ea : lo gob gd O.1 (ga (O.2.1 p)) with _ | wa
    · rw [ea] at r2
      have r2 : (none : Option Nat) = some v := r2
      cases r2
    · rcases eb : lo gob gd O.1 (gb (O.2.1 p)) with _ | wb
      · rw [ea, eb] at r2
        have r2 : (none : Option Nat) = some v := r2
        cases r2
      · rw [ea, eb] at r2
        have a := key _ wa (Or.inl rfl) ea
        have b := key _ wb (Or.inr rfl) eb
        have r2 : some (1 + (if wb < wa then wa else wb)) = some v := r2
        have r2 := Option.some.inj r2
        split at r2 <;> omega
section BSX
variable {ft tv gp : Nat → Int32} {S : PS} {rk : Nat → Nat} {c0 : Nat} {bC gC bR gR : List Nat → Nat} {Z : LZ} {fi si : Nat → Nat} {Y : LY} {Gr : (Nat → Nat) × (Nat → Nat)} {T : AS} {O : OR}
/-- both boards, as read leaves them -/
def BST (ft tv gp : Nat → Int32) (S : PS) (c0 : Nat) (bC gC bR gR : List Nat → Nat) (Z : LZ) (fi si : Nat → Nat) (Y : LY) (Gr : (Nat → Nat) × (Nat → Nat)) (T : AS) (O : OR) : Prop :=
  BB ft tv gp S c0 (2 + inw S (c0 + 2)) bC gC Z fi si bR gR Y Gr ∧ NI Z.2.2.1 fi si (2 + inw S (c0 + 2)) Z.2.2.2.2.2.2.2.2 0 T ∧ (∀ j, j < Z.2.2.2.2.2.2.2.2 → T.2.1 (2 + inw S (c0 + 2) + j) ≠ 1) ∧ OI Y.2.2.2.2.2.2 Y.2.2.1 Gr.1 Gr.2 Y.1.2.2 O ∧ (∀ x, x < Y.1.2.2 → Y.2.2.2.2.2.2 x = false → O.1 x ≠ none) ∧ NNC Z ∧ bok Y Gr O ∧
  (∀ j, j < ow S c0 → sgo Z.2.1 Z.1 j = cod (2 + inw S (c0 + 2)) gC (sr_ ft tv gp S c0 [] j) ∧ RV S c0 bR Y (sr_ ft tv gp S c0 [] j) (src Y.2.2.1 Y.2.1 8001 (j + 2)) ∧ stp Y.2.2.1 Y.2.1 (src Y.2.2.1 Y.2.1 8001 (j + 2)) ∧ src Y.2.2.1 Y.2.1 8001 (j + 2) < 8002 ∧ sgo Z.2.1 Z.1 j < 430) ∧
  inw S (c0 + 2) ≤ 128 ∧ (Z.1 ≤ 8000 ∧ Z.2.2.2.2.2.2.2.2 ≤ 300) ∧ (∀ x, x < Z.2.2.2.2.2.2.2.2 → fi x < 430 ∧ si x < 430) ∧ (∀ i v, Z.2.1 i = .inl v → v < 8000) ∧ (∀ i v, Z.2.1 i = .inr v → v < 430) ∧ AI (2 + inw S (c0 + 2)) Z.2.2.2.2.2.2.2.2 0 T
theorem VA.wk {fg : Nat} {va : Nat → Bool} {bv : Nat → Nat} (h : VA S c0 fg gC bR Y (fun _ => True) va bv) : VA S c0 fg gC bR Y (fun s => tyl S s = 1) va bv := ⟨h.1, h.2.1, h.2.2.1, h.2.2.2.1, fun s hs _ => h.2.2.2.2 s hs trivial⟩
/-- a board that was just made -/
theorem bst_new (hb : BRD ft gp S rk c0) (h4 : a44 S) (hk : kb_p ft gp S) {A6 : T6} (hz : BIZ A6) (st od : Nat → Nat) {B : LY} (hfr : ∀ i, B.2.1 i < 8002) (hgo : ∀ i, B.2.2.1 i ≤ 300) {N G0 : (Nat → Nat) × (Nat → Nat)} {gl : Nat → Option Nat} {go bv : Nat → Nat} (hft : (rdN S N).1 c0 ≤ 300 ∧ (rdN S N).2 c0 ≤ 8000) (hY : Y = bl_all ft tv gp S 8001 (np (ow S) (2 + c0) ((0, 0, 0), B.2))) (hG : Gr = rbG 8001 Y G0) (hO : O = rbO Y Gr gl go) (hok : (bA ft tv gp S c0 A6 st od).1 = true) :
    ∃ bC gC bR gR, BST ft tv gp S c0 bC gC bR gR (bzl ft tv gp S c0 A6).2 (bFs ft tv gp S c0 A6).1 (bFs ft tv gp S c0 A6).2 Y Gr (bA ft tv gp S c0 A6 st od).2 O ∧ VA S c0 (2 + inw S (c0 + 2)) gC bR Y (fun _ => True) (bV ft tv gp S c0 A6 st od).1 (st_set O.2.1 Y.2.2.2.2.2.1 Gr.1 Gr.2 O.2.2.1 0 (rs 0 Y.1.1 0 bv)) ∧ (bV ft tv gp S c0 A6 st od).2 = cns (fun p => (bV ft tv gp S c0 A6 st od).1 (2 + inw S (c0 + 2) + (bA ft tv gp S c0 A6 st od).2.2.2.1 p)) (bA ft tv gp S c0 A6 st od).2.2.2.2.1 := by
  obtain ⟨ht, -, tk, bC, gC, bR, gR, bb, o1, -, up, own⟩ := two_boards (tv := tv) hb h4 hk hz st od hfr hgo hft hY hG hO
  obtain ⟨n1, n2, n3⟩ := up hok
  obtain ⟨wf, hr, m23, ho, hi, hw, h0⟩ := id hb
  obtain ⟨-, -, -, -, -, m4, m5, m6, m7, m8⟩ := bld_f (tv := tv) hb hz ht st od
  have an := ara_ni (isD := (bzl ft tv gp S c0 A6).2.2.2.1) m7.2.1.2 (fun x hx => (m4 x hx).1) (fun x hx => (m4 x hx).2) _ 0 _ (Nat.zero_add _) m5 m6 (fun j hj => absurd hj (Nat.not_lt_zero _))
  have lg : (bzl ft tv gp S c0 A6).2.1 ≤ 8000 ∧ (bzl ft tv gp S c0 A6).2.2.2.2.2.2.2.2.2 ≤ 300 := m7.2.1
  have yb : ow S c0 ≤ Y.1.1 := bb.1.2.2.1
  have iwo : inw S (c0 + 2) ≤ ow S c0 := by have := inw_le S (c0 + 2); unfold pbn at this; rw [if_pos (by omega)] at this; exact this
  have rs0 : ∀ x, x < Y.1.1 → rs 0 Y.1.1 0 bv x = 0 := fun x hx => by rw [rs_x, if_pos (show 0 ≤ x ∧ x < 0 + Y.1.1 by omega)]
  have v0 : VA S c0 (2 + inw S (c0 + 2)) gC bR Y (fun s => tyl S s = 1) (bzl ft tv gp S c0 A6).2.2.2.2.2.2.1 (rs 0 Y.1.1 0 bv) := by
    refine ⟨m7.1.2.2.2.2.1, m7.2.2.1, fun j hj => ?_, fun x h1 _ _ => rs0 x h1, fun s hs _ => ?_⟩
    · rw [rs0 j (by omega), m8 j hj]; rfl
    · have l1 := (bb.1.2.2.2.1.1.1 s hs.1).1.2
      have pg := pbn_g S hs.2
      rw [rs0 _ (by omega), (bb.1.1.gt hs).2.2.2.2.2.1]; rfl
  obtain ⟨s1, s2⟩ := VA.set bb n1 n2 o1 n3 (o := 0) rfl v0
  refine ⟨bC, gC, bR, gR, ⟨bb, n1, n2, o1, n3, lay_nn 8 c0 0 _ rfl, tk, fun j hj => ?_, hi, lg, fun x hx => ?_, m7.1.1, m7.1.2.1, (an.1 hok).1⟩, s1, s2⟩
  · obtain ⟨a, b, c, d⟩ := own j hj
    refine ⟨a, b, c, d, ?_⟩
    rw [a]
    have k := sr_ok bb.1.1 wf h0 (s := []) (j := j) trivial (by rw [tyr_n]; unfold pbn; rw [if_pos (by omega)]; exact hj)
    rcases e : sr_ ft tv gp S c0 [] j with n | t
    · rw [e] at k
      have k : n < 2 + inw S (c0 + 2) := k
      show n < 430
      omega
    · rw [e] at k
      have k2 := (bb.1.1.gt k).1
      show 2 + inw S (c0 + 2) + gC t < 430
      omega
  · have a : (bFs ft tv gp S c0 A6).1 x < 2 + inw S (c0 + 2) + (bzl ft tv gp S c0 A6).2.2.2.2.2.2.2.2.2 := (m4 x hx).1
    have b : (bFs ft tv gp S c0 A6).2 x < 2 + inw S (c0 + 2) + (bzl ft tv gp S c0 A6).2.2.2.2.2.2.2.2.2 := (m4 x hx).2
    exact ⟨by omega, by omega⟩
theorem BST.cls (h : BST ft tv gp S c0 bC gC bR gR Z fi si Y Gr T O) : T.2.2.2.1 ≤ 300 ∧ (∀ i, i < T.2.2.2.1 → T.2.2.1 i < 300 ∧ fi (T.2.2.1 i) < 430 ∧ si (T.2.2.1 i) < 430) ∧ 2 + inw S (c0 + 2) ≤ 130 ∧ Z.2.2.2.2.2.2.2.2 ≤ 300 ∧ (∀ g, g < Z.2.2.2.2.2.2.2.2 → fi g < 430) := by
  obtain ⟨bb, n1, n2, o1, n3, nnc, tk, own, hi, ⟨hz, hg⟩, hf, h1, h2, ai⟩ := h
  have al := ai.le.2
  refine ⟨by omega, fun i hx => ?_, by omega, hg, fun g hx => (hf g hx).1⟩
  have q := ai.2.2.2.2.2.2.2 i hx
  exact ⟨by omega, hf _ q⟩
theorem BST.rfs (h : BST ft tv gp S c0 bC gC bR gR Z fi si Y Gr T O) : Y.1.2.2 ≤ 300 ∧ (∀ i, i < Y.1.2.2 → Y.2.2.2.2.2.1 i + 2 < 8002 ∧ Y.2.2.2.2.2.1 i + 1 < 8000 ∧ Gr.1 i < 8002) ∧ O.2.2.1 ≤ Y.1.2.2 ∧ (∀ i, i < O.2.2.1 → O.2.1 i < 300 ∧ Y.2.2.2.2.2.1 (O.2.1 i) + 2 < 8000 ∧ Gr.1 (O.2.1 i) < 8002 ∧ Gr.2 (O.2.1 i) < 8002) := by
  obtain ⟨bb, n1, n2, o1, n3, nnc, tk, -⟩ := h
  obtain ⟨t1, t2, t3, t4, t5, t6⟩ := tk
  refine ⟨t2, fun i hi => ?_, by rw [← o1.2.2.2]; exact cns_le _ _, t6⟩
  obtain ⟨s, s1, s2⟩ := bb.1.2.gx hi
  have K := (bb.1.2.gt s1).2.2.1
  rw [s2] at K
  have l1 := (bb.1.2.2.2.1.1.1 s s1.1).1.2
  have pg := pbn_g S s1.2
  have iw : 1 ≤ inw S (tyl S s) := by
    rcases (show tyl S s = 0 ∨ tyl S s = 1 by have := s1.2; omega) with e | e <;> rw [e]
    · rw [(inw_1 S).1]; decide
    · rw [(inw_1 S).2]; decide
  rw [K]
  exact ⟨by omega, by omega, (t4 i hi).1.1⟩
section STP
variable {t0 : Nat} {G : PG} {ct ip : Nat} {xs : List Nat} {pf pw : Nat → Nat} {po : Nat → Bool} {va : Nat → Bool} {bv : Nat → Nat} {on : Nat}
theorem st_drive (hst : BST ft tv gp S c0 bC gC bR gR Z fi si Y Gr T O) (hp : PNS t0 G ct ip xs pf pw po c0) (hin : inw S (c0 + 2) = m_psum pw ip (pf c0) 0) (hbv : ∀ j, bv j ≤ 1) (hva : VA S c0 (2 + inw S (c0 + 2)) gC bR Y (fun _ => True) va bv) (hon : on = cns (fun p => va (2 + inw S (c0 + 2) + T.2.2.1 p)) T.2.2.2.1) (x y : Int32) :
    (∀ a, sIn ip xs x = some a → G.1 a = 2 ∧ G.2.1 a 2 ≤ 16 ∧ G.2.1 a 4 + G.2.1 a 2 + 2 ≤ 2 + inw S (c0 + 2)) ∧ (∀ z, bpin true pf po c0 false x = some z → pw z ≤ 16 ∧ m_psum pw (z - pf c0) (pf c0) 0 + pw z ≤ 8000) ∧ (sIn ip xs x).isSome = (bpin true pf po c0 false x).isSome ∧
    ∀ (u : (Nat → Bool) × Nat) (v : Nat → Nat), u = (match (sIn ip xs x) with | none => (va, on) | some a => bd_set T.2.2.1 fi si (2 + inw S (c0 + 2)) T.2.2.2.1 0 (drc y (2 + G.2.1 a 4) (G.2.1 a 2) 0 va, 0)) → v = (match bpin true pf po c0 false x with | none => bv | some z => st_set O.2.1 Y.2.2.2.2.2.1 Gr.1 Gr.2 O.2.2.1 0 (dr y (m_psum pw (z - pf c0) (pf c0) 0) (pw z) 0 bv)) → VA S c0 (2 + inw S (c0 + 2)) gC bR Y (fun _ => True) u.1 v ∧ u.2 = cns (fun p => u.1 (2 + inw S (c0 + 2) + T.2.2.1 p)) T.2.2.2.1 ∧ ∀ j, v j ≤ 1 := by
  obtain ⟨bb, n1, n2, o1, n3, nnc, tk, own, hi, -⟩ := hst
  rcases hp.inn x with ⟨e1, e2⟩ | ⟨a, i, i1, e1, e2, g1, g2, g3⟩
  · rw [e1, e2]
    refine ⟨fun a e => (by cases e), fun z e => (by cases e), rfl, fun u v hu hv => ?_⟩
    have hu : u = (va, on) := hu
    have hv : v = bv := hv
    subst hu hv
    exact ⟨hva, hon, hbv⟩
  · rw [e1, e2]
    have pl := hp.2.2.2.2.2.1
    have w := hp.2.2.2.2.2.2.2.2.2 i (by omega)
    have sn := psum_sn pw i (pf c0) 0
    have sm := psum_m2 (f := pw) (a := pf c0) (show i + 1 ≤ ip by omega)
    have es : pf c0 + i - pf c0 = i := by omega
    refine ⟨fun a' e => ?_, fun z e => ?_, rfl, fun u v hu hv => ?_⟩
    · cases e; exact ⟨g1, by rw [g2]; exact w.2, by rw [g2, g3]; omega⟩
    · cases e; rw [es]; exact ⟨w.2, by omega⟩
    · have hv : v = st_set O.2.1 Y.2.2.2.2.2.1 Gr.1 Gr.2 O.2.2.1 0 (dr y (m_psum pw (pf c0 + i - pf c0) (pf c0) 0) (pw (pf c0 + i)) 0 bv) := hv
      rw [es] at hv
      have hu : u = bd_set T.2.2.1 fi si (2 + inw S (c0 + 2)) T.2.2.2.1 0 (drc y (2 + G.2.1 a 4) (G.2.1 a 2) 0 va, 0) := hu
      rw [g2, g3] at hu
      have d := VA.drv (y := y) (o := m_psum pw i (pf c0) 0) (w := pw (pf c0 + i)) bb (by omega) (pw (pf c0 + i)) 0 va bv (Nat.zero_add _) hva
      obtain ⟨s1, s2⟩ := VA.set bb n1 n2 o1 n3 (o := 0) rfl d.wk
      subst hu hv
      exact ⟨s1, s2, st_set_le _ _ _ (dr_le _ _ _ hbv)⟩
theorem st_pin (hst : BST ft tv gp S c0 bC gC bR gR Z fi si Y Gr T O) (hp : PNS t0 G ct ip xs pf pw po c0) (how : m_psum pw xs.length (pf c0) 0 ≤ ow S c0) (hva : VA S c0 (2 + inw S (c0 + 2)) gC bR Y (fun _ => True) va bv) (x : Int32) :
    (∀ a, sOut ip xs x = some a → G.1 a = 2 ∧ G.2.1 a 2 ≤ 16 ∧ G.2.1 a 4 + G.2.1 a 2 ≤ 8000 ∧ ∀ i, i < G.2.1 a 2 → sgo Z.2.1 Z.1 (G.2.1 a 4 + i) < 430) ∧ (∀ z, bpin true pf po c0 true x = some z → 1 ≤ pw z ∧ pw z ≤ 16 ∧ m_psum pw (z - pf c0) (pf c0) 0 + pw z ≤ 8000 ∧ ∀ i, i < pw z → stp Y.2.2.1 Y.2.1 (src Y.2.2.1 Y.2.1 8001 (m_psum pw (z - pf c0) (pf c0) 0 + i + 2)) ∧ src Y.2.2.1 Y.2.1 8001 (m_psum pw (z - pf c0) (pf c0) 0 + i + 2) < 8002) ∧
    (sOut ip xs x).map (fun a => onm (fun i => va (sgo Z.2.1 Z.1 (G.2.1 a 4 + i))) (G.2.1 a 2) 0 0) = (bpin true pf po c0 true x).map (fun z => m_pin (fun i => vo bv (src Y.2.2.1 Y.2.1 8001 (m_psum pw (z - pf c0) (pf c0) 0 + i + 2))) (pw z) 0) := by
  obtain ⟨bb, n1, n2, o1, n3, nnc, tk, own, hi, -⟩ := hst
  have yb : ow S c0 ≤ Y.1.1 := bb.1.2.2.1
  have y8 := tk.1
  rcases hp.out x with ⟨e1, e2⟩ | ⟨a, i, i1, e1, e2, g1, g2, g3⟩
  · rw [e1, e2]
    exact ⟨fun a e => (by cases e), fun z e => (by cases e), rfl⟩
  · rw [e1, e2]
    have w := hp.2.2.2.2.2.2.2.2.2 i (by omega)
    have sn := psum_sn pw i (pf c0) 0
    have sm := psum_m2 (f := pw) (a := pf c0) (show i + 1 ≤ xs.length by omega)
    have es : pf c0 + i - pf c0 = i := by omega
    refine ⟨fun a' e => ?_, fun z e => ?_, ?_⟩
    · cases e
      rw [g2, g3]
      exact ⟨g1, w.2, by omega, fun j hj => (own _ (by omega)).2.2.2.2⟩
    · cases e
      rw [es]
      exact ⟨w.1, w.2, by omega, fun j hj => ⟨(own _ (by omega)).2.2.1, (own _ (by omega)).2.2.2.1⟩⟩
    · show some (onm (fun j => va (sgo Z.2.1 Z.1 (G.2.1 a 4 + j))) (G.2.1 a 2) 0 0) = some (m_pin (fun j => vo bv (src Y.2.2.1 Y.2.1 8001 (m_psum pw (pf c0 + i - pf c0) (pf c0) 0 + j + 2))) (pw (pf c0 + i)) 0)
      rw [es, g2, g3]
      refine congrArg some (pin_cmp2 (fun j hj => ?_)).symm
      obtain ⟨q1, q2, -⟩ := own (m_psum pw i (pf c0) 0 + j) (by omega)
      rw [q1]
      exact VA.src hva q2 (fun _ _ => trivial)
theorem st_tick (hst : BST ft tv gp S c0 bC gC bR gR Z fi si Y Gr T O) (hbv : ∀ j, bv j ≤ 1) (hva : VA S c0 (2 + inw S (c0 + 2)) gC bR Y (fun _ => True) va bv) (nx : Nat → Bool) {nn : Nat → Nat} (hnn : ∀ j, nn j ≤ 1) :
    (bd_tk Z.2.2.1 (bd_nx fi va Z.2.2.2.2.2.2.2.2 0 nx) (2 + inw S (c0 + 2)) Z.2.2.2.2.2.2.2.2 0 (va, 0)).2 = (tk_2 Y.2.2.2.2.2.2 Y.2.2.2.2.2.1 (tk_nv Gr.1 bv Y.1.2.2 0 nn) Y.1.2.2 0 (bv, 0)).2 ∧
    VA S c0 (2 + inw S (c0 + 2)) gC bR Y (fun _ => True) (bd_set T.2.2.1 fi si (2 + inw S (c0 + 2)) T.2.2.2.1 0 ((bd_tk Z.2.2.1 (bd_nx fi va Z.2.2.2.2.2.2.2.2 0 nx) (2 + inw S (c0 + 2)) Z.2.2.2.2.2.2.2.2 0 (va, 0)).1, 0)).1 (st_set O.2.1 Y.2.2.2.2.2.1 Gr.1 Gr.2 O.2.2.1 0 (tk_2 Y.2.2.2.2.2.2 Y.2.2.2.2.2.1 (tk_nv Gr.1 bv Y.1.2.2 0 nn) Y.1.2.2 0 (bv, 0)).1) ∧
    (bd_set T.2.2.1 fi si (2 + inw S (c0 + 2)) T.2.2.2.1 0 ((bd_tk Z.2.2.1 (bd_nx fi va Z.2.2.2.2.2.2.2.2 0 nx) (2 + inw S (c0 + 2)) Z.2.2.2.2.2.2.2.2 0 (va, 0)).1, 0)).2 = cns (fun p => (bd_set T.2.2.1 fi si (2 + inw S (c0 + 2)) T.2.2.2.1 0 ((bd_tk Z.2.2.1 (bd_nx fi va Z.2.2.2.2.2.2.2.2 0 nx) (2 + inw S (c0 + 2)) Z.2.2.2.2.2.2.2.2 0 (va, 0)).1, 0)).1 (2 + inw S (c0 + 2) + T.2.2.1 p)) T.2.2.2.1 ∧
    (∀ j, st_set O.2.1 Y.2.2.2.2.2.1 Gr.1 Gr.2 O.2.2.1 0 (tk_2 Y.2.2.2.2.2.2 Y.2.2.2.2.2.1 (tk_nv Gr.1 bv Y.1.2.2 0 nn) Y.1.2.2 0 (bv, 0)).1 j ≤ 1) ∧ ∀ j, tk_nv Gr.1 bv Y.1.2.2 0 nn j ≤ 1 := by
  obtain ⟨bb, n1, n2, o1, n3, -⟩ := hst
  obtain ⟨d1, d2⟩ := VA.tick bb hva (ng := Z.2.2.2.2.2.2.2.2) rfl (nx := bd_nx fi va Z.2.2.2.2.2.2.2.2 0 nx) (nw := tk_nv Gr.1 bv Y.1.2.2 0 nn) (bdnx_sp _ 0 nx (Nat.zero_add _) (fun j hj => absurd hj (Nat.not_lt_zero _))) (tknv_sp _ 0 nn (Nat.zero_add _) (fun j hj => absurd hj (Nat.not_lt_zero _)))
  obtain ⟨s1, s2⟩ := VA.set bb n1 n2 o1 n3 (o := 0) rfl d1
  have tn := tk_nv_le (ga := Gr.1) hbv Y.1.2.2 0 nn hnn
  exact ⟨d2, s1, s2, st_set_le _ _ _ (tk_2_le tn _ _ _ hbv), tn⟩
theorem st_gates (hst : BST ft tv gp S c0 bC gC bR gR Z fi si Y Gr T O) (hp : PNS t0 G ct ip xs pf pw po c0) (hbv : ∀ j, bv j ≤ 1) (hva : VA S c0 (2 + inw S (c0 + 2)) gC bR Y (fun _ => True) va bv) (hon : on = cns (fun p => va (2 + inw S (c0 + 2) + T.2.2.1 p)) T.2.2.2.1) (nc tk n : Nat) :
    Z.2.2.2.2.2.2.2.1 ≤ Z.2.2.2.2.2.2.2.2 ∧ gsel Z.2.2.2.2.2.2.2.1 Z.2.2.2.2.2.2.2.2 ip (xs.length - ip) nc tk (on, T.2.2.2.2) n = gsel O.2.2.1 Y.1.2.2 (m_cp po false (pf (c0 + 1) - pf c0) (pf c0) 0) (m_cp po true (pf (c0 + 1) - pf c0) (pf c0) 0) nc tk (gt_l O.2.1 Y.2.2.2.2.2.1 bv O.1 O.2.2.1 0 (0, 0)) n := by
  have hr := hst.rfs.2.2.1
  obtain ⟨bb, n1, n2, o1, n3, nnc, -⟩ := hst
  obtain ⟨a, b, c, d⟩ := bb.gts n1 n2 o1 n3 nnc hbv hva hon
  rw [hp.cnt.1, hp.cnt.2, a, b]
  refine ⟨hr, ?_⟩
  unfold gsel
  rw [← c, ← d]
end STP
end BSX
