/-! the reference's read, as a function -/
theorem cla_44 {ft gp : Nat → Int32} {c : Nat} {P : PS} : (cl_all ft gp c P).2.2.2.1 44 = P.2.2.2.1 44 := by
  unfold cl_all; rw [clparts_44, rz_44]
theorem isb_filinks {ft gp : Nat → Int32} {c i : Nat} : ∀ k l P, (fi_links ft gp c i k l P).2.2.2.1 44 = P.2.2.2.1 44
  | 0, _, _ => rfl
  | k + 1, l, P => by
    show (fi_links ft gp c i k (l + 1) (fi_link ft gp c i l P)).2.2.2.1 44 = _
    rw [isb_filinks k]
    unfold fi_link
    split
    · rfl
    · split
      · rfl
      · split <;> rfl
theorem isb_fi0 : ∀ k i P, (fi_0 k i P).2.2.2.1 44 = P.2.2.2.1 44
  | 0, _, _ => rfl
  | k + 1, i, P => by show (fi_0 k (i + 1) (abs_ (aos P 39 i (some 0)) 40 i false)).2.2.2.1 44 = _; rw [isb_fi0 k]; rfl
theorem isb_44 {ft gw : Nat → Int32} {p : Nat} {P : PS} (h15 : P.1 15 ≤ 8) (h : isb P) : isb (aos P 44 p (q_chip ft gw P (P.2.2.1 25 p))) := by
  intro j z hz
  have hz : (if j = p then q_chip ft gw P (P.2.2.1 25 p) else P.2.2.2.1 44 j) = some z := hz
  split at hz
  · exact q_chip_10 h15 z hz
  · exact h j z hz
theorem isb_fiparts {ft gw gp : Nat → Int32} {c : Nat} : ∀ k p P, P.1 15 ≤ 8 → isb P → isb (fi_parts ft gw gp c k p P)
  | 0, _, _, _, h => h
  | k + 1, p, P, h15, h => by
    refine isb_fiparts k (p + 1) _ (by rw [(kp_fipart ft gw gp c p P).1 15 (by decide) (by decide)]; exact h15) ?_
    cases hq : q_chip ft gw P (P.2.2.1 25 p) with
    | none => rw [fi_part_n hq]; exact isb_44 h15 h
    | some i =>
      rw [fi_part_s hq]
      intro j z hz
      rw [isb_filinks] at hz
      exact isb_44 h15 h j z hz
theorem isb_fi {ft gw gp : Nat → Int32} {c : Nat} {P : PS} (h15 : P.1 15 ≤ 8) (h : isb P) : isb (fi_all ft gw gp c P) := by
  unfold fi_all
  refine isb_fiparts _ _ _ (by rw [(kp_fi0 _ _ P).1 15 (by decide) (by decide)]; exact h15) ?_
  intro j z hz
  rw [isb_fi0] at hz
  exact h j z hz
theorem chk_p2 {ft tv gw gp : Nat → Int32} {nv : Nat → Nat} : ∀ k c P, chk ft tv gw gp nv P → isb P → chk ft tv gw gp nv (p2 ft gw gp k c P) ∧ isb (p2 ft gw gp k c P)
  | 0, _, _, h, g => ⟨h, g⟩
  | k + 1, c, P, h, g => chk_p2 k (c + 1) _ (chk_cla (chk_fi h)) (by intro j z hz; rw [cla_44] at hz; exact isb_fi h.c8 g j z hz)
theorem chk_rk {ft tv gw gp : Nat → Int32} {nv : Nat → Nat} {P X : PS} (h : chk ft tv gw gp nv P) (kk : rk P X) (h5 : X.1 5 ≤ 6) (h6 : X.1 6 < 2 ^ 31) : chk ft tv gw gp nv X := by
  have r : chk ft tv gw gp nv (X.1, X.2.1, X.2.2.1, X.2.2.2.1, P.2.2.2.2) := by
    refine chk_kp h ⟨kk.1, fun k _ _ => ?_, fun k _ _ => ?_, fun k _ => rfl⟩ ?_ ?_ ?_ ?_ h5 h6
    · show X.2.2.1 k = _; rw [kk.2.2.1]
    · show X.2.2.2.1 k = _; rw [kk.2.2.2.1]
    · show ∀ y w, X.2.2.2.1 39 y = some w → w ≤ 16; rw [kk.2.2.2.1]; exact h.iw
    · show ∀ y w, X.2.2.2.1 44 y = some w → w < 1002; rw [kk.2.2.2.1]; exact h.ao_44
    · show ∀ j, X.2.2.1 48 j < 65536; rw [kk.2.2.1]; exact h.m48
    · show ∀ j, X.2.2.1 49 j < 65536; rw [kk.2.2.1]; exact h.m49
  exact r
theorem nt_56 {n t : Nat} {P : PS} (hn : n ≤ 6) (h5 : P.1 5 ≤ 6) (h6 : P.1 6 < 2 ^ 31) (h8 : ∀ j, P.2.2.1 8 j < 2 ^ 31) : (sp_note n t P).1 5 ≤ 6 ∧ (sp_note n t P).1 6 < 2 ^ 31 := by
  unfold sp_note; split
  · exact ⟨h5, h6⟩
  · exact ⟨hn, h8 t⟩
theorem rgn_56 : ∀ k c P, P.1 5 ≤ 6 → P.1 6 < 2 ^ 31 → (∀ j, P.2.2.1 8 j < 2 ^ 31) → (rg_n k c P).1 5 ≤ 6 ∧ (rg_n k c P).1 6 < 2 ^ 31
  | 0, _, _, h5, h6, _ => ⟨h5, h6⟩
  | k + 1, c, P, h5, h6, h8 => by
    have r : (rg_m c P).1 5 ≤ 6 ∧ (rg_m c P).1 6 < 2 ^ 31 := by
      unfold rg_m; split
      · exact nt_56 (by decide) h5 h6 h8
      · exact ⟨h5, h6⟩
    exact rgn_56 k (c + 1) (rg_m c P) r.1 r.2 (by rw [rk_m.2.2.1]; exact h8)
theorem rga_56 {P : PS} (h5 : P.1 5 ≤ 6) (h6 : P.1 6 < 2 ^ 31) (h8 : ∀ j, P.2.2.1 8 j < 2 ^ 31) : (rg_all P).1 5 ≤ 6 ∧ (rg_all P).1 6 < 2 ^ 31 := by
  unfold rg_all
  refine rgn_56 _ _ _ ?_ ?_ ?_
  · rw [rgk_1, rgc_1, bz_1]; exact h5
  · rw [rgk_1, rgc_1, bz_1]; exact h6
  · rw [(rk_tr (rk_bz 256 0 P) (rk_tr (rk_c _ _ _) (rk_k _ _ _ _))).2.2.1]; exact h8
/-- the state behind the tokens; without and with the rows of the checks -/
def rd1 (P : PS) (tn : Nat) (T : TS) : PS := (va_up (va_up (va_up P.1 3 tn) 11 T.1) 12 0, P.2.1, va_up (va_up (va_up P.2.2.1 7 T.2.1) 8 T.2.2.1) 9 T.2.2.2.1, P.2.2.2)
def msk (P : PS) : PS := (P.1, P.2.1, va_up (va_up P.2.2.1 48 (fun _ => 0)) 49 (fun _ => 0), P.2.2.2)
def m89 (P u : PS) : PS := (u.1, u.2.1, va_up (va_up u.2.2.1 48 (P.2.2.1 48)) 49 (P.2.2.1 49), va_up (va_up u.2.2.2.1 39 (P.2.2.2.1 39)) 44 (P.2.2.2.1 44), va_up (va_up u.2.2.2.2 40 (P.2.2.2.2 40)) 50 (P.2.2.2.2 50))
noncomputable def rdT (ft cw tv : Nat → Int32) (tn : Nat) (P : PS) : TS := m_tkz ft tn cw 29 1001 (m_skip ft tn tn 0) (0, P.2.2.1 7, P.2.2.1 8, P.2.2.1 9, tv)
noncomputable def rdX (ft cw tv : Nat → Int32) (nv : Nat → Nat) (tn : Nat) (P : PS) : PS := sp_texts ft (rdT ft cw tv tn P).2.2.2.2 nv (msk (rd1 P tn (rdT ft cw tv tn P)))
noncomputable def rdP (ft cw tv : Nat → Int32) (nv : Nat → Nat) (tn : Nat) (P : PS) : PS := m89 P (rdX ft cw tv nv tn P)
def rdC (ft gw gp : Nat → Int32) (nv : Nat → Nat) (P : PS) : PS := p2 ft gw gp (P.1 15) 0 (cp_all ft gw nv (P.1 15) 0 (zs P 5 0))
def rdR (P : PS) : PS := if P.1 5 = 0 then rg_all P else P
def rdN (P : PS) (N : (Nat → Nat) × (Nat → Nat)) : (Nat → Nat) × (Nat → Nat) := ca_n (P.2.2.1 17) (P.2.2.1 21) (P.2.2.1 36) (P.2.2.2.1 39) (P.2.2.1 23) (P.2.2.2.1 44) (P.1 15) (P.1 15) N
def rbS (ft tv gp : Nat → Int32) (P : PS) (S : LY) : LY := bl_all ft tv gp P 8001 (np (ow P) (2 + (P.1 15 - 1)) ((0, 0, 0), S.2))
def rbG (J : Nat) (X : LY) (G : (Nat → Nat) × (Nat → Nat)) : (Nat → Nat) × (Nat → Nat) := bg_l X J X.1.2.2 0 G
def rbO (X : LY) (G : (Nat → Nat) × (Nat → Nat)) (gl : Nat → Option Nat) (go : Nat → Nat) : OR := or_w X.2.2.2.2.2.2 X.2.2.1 G.1 G.2 X.1.2.2 302 ((or_0 X.2.2.2.2.2.2 X.1.2.2 0 (gl, 0)).1, go, 0, true)
def rbK (X : LY) (gl : Nat → Option Nat) : Nat := (or_0 X.2.2.2.2.2.2 X.1.2.2 0 (gl, 0)).2
/-- the board's state: layout, gateA and gateB, levels, order, values, gates and bits of all chips, how many are ordered, which chip, ticks -/
abbrev MB : Type := LY × ((Nat → Nat) × (Nat → Nat)) × (Nat → Option Nat) × (Nat → Nat) × (Nat → Nat) × ((Nat → Nat) × (Nat → Nat)) × (Nat × Nat × Nat)
/-- what read answers: number, place, whether there is a board, and the new state -/
abbrev RD : Type := (Nat × Option Nat × Bool) × PS × MB
def rdB (ft tv gp : Nat → Int32) (J : Nat) (P : PS) (B : MB) : RD :=
  if (rdN P B.2.2.2.2.2.1).1 (P.1 15 - 1) ≤ 300 ∧ (rdN P B.2.2.2.2.2.1).2 (P.1 15 - 1) ≤ 8000 then
    if (rbO (rbS ft tv gp P B.1) (rbG J (rbS ft tv gp P B.1) B.2.1) B.2.2.1 B.2.2.2.1).2.2.1 = rbK (rbS ft tv gp P B.1) B.2.2.1 then
      ((0, none, true), P, (rbS ft tv gp P B.1, rbG J (rbS ft tv gp P B.1) B.2.1, (rbO (rbS ft tv gp P B.1) (rbG J (rbS ft tv gp P B.1) B.2.1) B.2.2.1 B.2.2.2.1).1, (rbO (rbS ft tv gp P B.1) (rbG J (rbS ft tv gp P B.1) B.2.1) B.2.2.1 B.2.2.2.1).2.1, st_set (rbO (rbS ft tv gp P B.1) (rbG J (rbS ft tv gp P B.1) B.2.1) B.2.2.1 B.2.2.2.1).2.1 (rbS ft tv gp P B.1).2.2.2.2.2.1 (rbG J (rbS ft tv gp P B.1) B.2.1).1 (rbG J (rbS ft tv gp P B.1) B.2.1).2 (rbO (rbS ft tv gp P B.1) (rbG J (rbS ft tv gp P B.1) B.2.1) B.2.2.1 B.2.2.2.1).2.2.1 0 (rs 0 (rbS ft tv gp P B.1).1.1 0 B.2.2.2.2.1), rdN P B.2.2.2.2.2.1, ((rbO (rbS ft tv gp P B.1) (rbG J (rbS ft tv gp P B.1) B.2.1) B.2.2.1 B.2.2.2.1).2.2.1, P.1 15 - 1, 0)))
    else ((6, some (P.1 3), false), zs (zs P 5 6) 6 (P.1 3), (rbS ft tv gp P B.1, rbG J (rbS ft tv gp P B.1) B.2.1, (rbO (rbS ft tv gp P B.1) (rbG J (rbS ft tv gp P B.1) B.2.1) B.2.2.1 B.2.2.2.1).1, (rbO (rbS ft tv gp P B.1) (rbG J (rbS ft tv gp P B.1) B.2.1) B.2.2.1 B.2.2.2.1).2.1, B.2.2.2.2.1, rdN P B.2.2.2.2.2.1, ((rbO (rbS ft tv gp P B.1) (rbG J (rbS ft tv gp P B.1) B.2.1) B.2.2.1 B.2.2.2.1).2.2.1, P.1 15 - 1, B.2.2.2.2.2.2.2.2)))
  else ((6, some (P.1 3), false), zs (zs P 5 6) 6 (P.1 3), (B.1, B.2.1, B.2.2.1, B.2.2.2.1, B.2.2.2.2.1, rdN P B.2.2.2.2.2.1, (B.2.2.2.2.2.2.1, P.1 15 - 1, B.2.2.2.2.2.2.2.2)))
/-- read: all of it -/
noncomputable def rdA (ft cw gw gp tv : Nat → Int32) (nv : Nat → Nat) (J tn : Nat) (P : PS) (B : MB) : RD :=
  if (rdP ft cw tv nv tn P).1 13 = 0 then
    if (rdR (rdC ft gw gp nv (rdP ft cw tv nv tn P))).1 5 = 0 then rdB ft (rdT ft cw tv tn P).2.2.2.2 gp J (rdR (rdC ft gw gp nv (rdP ft cw tv nv tn P))) B
    else (((rdR (rdC ft gw gp nv (rdP ft cw tv nv tn P))).1 5, some ((rdR (rdC ft gw gp nv (rdP ft cw tv nv tn P))).1 6), false), rdR (rdC ft gw gp nv (rdP ft cw tv nv tn P)), B)
  else (((rdP ft cw tv nv tn P).1 13, some ((rdP ft cw tv nv tn P).1 14), false), rdP ft cw tv nv tn P, B)
/-- what the walk must know of a board that is laid out -/
def bok (X : LY) (G : (Nat → Nat) × (Nat → Nat)) (O : OR) : Prop := X.1.1 ≤ 8000 ∧ X.1.2.2 ≤ 300 ∧ (∀ i, X.2.2.1 i ≤ 300) ∧ (∀ i, i < X.1.2.2 → (G.1 i < 8002 ∧ G.2 i < 8002) ∧ X.2.2.1 (G.1 i - 2) ≤ X.1.2.2 ∧ X.2.2.1 (G.2 i - 2) ≤ X.1.2.2) ∧ O.2.2.1 ≤ 300 ∧ ∀ i, i < O.2.2.1 → O.2.1 i < 300 ∧ X.2.2.2.2.2.1 (O.2.1 i) + 2 < 8000 ∧ G.1 (O.2.1 i) < 8002 ∧ G.2 (O.2.1 i) < 8002
theorem rd_23 {ft tv gw gp : Nat → Int32} {nv : Nat → Nat} {P : PS} (h : chk ft tv gw gp nv P) (h1 : 1 ≤ P.1 15) {j : Nat} (hj : j ≤ P.1 15) : P.2.2.1 23 j ≤ 100 := by
  have h24 := h.s24
  by_cases q : j < P.1 15
  · have := h.qe j q; omega
  · have := (h.qe (P.1 15 - 1) (by omega)).2
    rw [show P.1 15 - 1 + 1 = j by omega] at this; omega
theorem p2_15 {ft gw gp : Nat → Int32} : ∀ k c P, (p2 ft gw gp k c P).1 15 = P.1 15
  | 0, _, _ => rfl
  | k + 1, c, P => by
    show (p2 ft gw gp k (c + 1) (cl_all ft gp c (fi_all ft gw gp c P))).1 15 = _
    rw [p2_15 k, (kp_cla ft gp c _).1 15 (by decide) (by decide), (kp_fi ft gw gp c P).1 15 (by decide) (by decide)]
theorem rd_15 {ft gw gp : Nat → Int32} {nv : Nat → Nat} {P : PS} : (rdR (rdC ft gw gp nv P)).1 15 = P.1 15 := by
  have e : (rdC ft gw gp nv P).1 15 = P.1 15 := by
    unfold rdC; rw [p2_15, cpall_k (by decide) (by decide)]; rfl
  unfold rdR; split
  · rw [(rk_all _).1 15 (by decide) (by decide), e]
  · exact e
