set_option maxHeartbeats 4000000 in
set_option maxRecDepth 100000 in
/-- checkTarget(wire, side, n), with a wire or none -/
theorem p_Checker_checkTarget (l : Launch) (dC : Nat → ClassId) (dI : Nat → Nat → Nat) (cB cI cL cZ cC cO : ClassId) (qx qc qf na df qi : Nat) (v0 v1 : Value) {L : List Nat} {G : PG} (wo : Option Nat) (s0 n nm : Nat) (t0 sz : Nat) (hL : gL L G) (hs : G.1 s0 = 3) (ho : ∀ z, G.2.2.1 s0 2 = some z → z < 2 ^ 31) (hlo : G.2.1 s0 3 < 100) (hhi : G.2.1 s0 4 < 100) (hsn : G.2.2.2.2.2 s0 0 = some nm) (hnm : G.1 nm = 1) (hn0 : G.2.2.1 s0 2 = none → G.2.1 s0 3 = 0 ∧ G.2.1 s0 4 = 0) (hn : n < 2 ^ 31) (hW : ∀ w, wo = some w → G.1 w = 2 ∧ G.2.1 w 1 < 3 ∧ G.2.1 w 2 < 100 ∧ G.2.1 w 2 ≤ 16 ∧ G.2.1 w 5 < 65536) : Met l y_Checker_checkTarget w_Checker_checkTarget ({ frames := 3, cells := 0, slots := 0, locals := 150 }) (va_Pc [.ref qx, va_rf wo, .ref s0, .int (nI n)] (wB2 (dC, dI) cl [(cB, .byte), (cI, .int), (cL, .long), (cZ, .boolean), (cC, .char), (cO, .object "java/lang/Object")] sz t0 ([(qx, .inr (5, [.ref qc, .ref qf, .ref na, .ref df, .ref qi])), (qf, .inr (2, [v0, v1]))] ++ va_pl L (gE cO G)))) (va_Qi (fun (r : Int32) (u : (Value × Value) × PG) => r = bI (decide ((ckt G wo s0 n (G.2.2.1 nm 2)).1 = none)) ∧ u.1 = fpr (ckt G wo s0 n (G.2.2.1 nm 2)).1 v0 v1 ∧ u.2 = (ckt G wo s0 n (G.2.2.1 nm 2)).2) (fun u t => wA (dC, dI) cl [(cB, .byte), (cI, .int), (cL, .long), (cZ, .boolean), (cC, .char), (cO, .object "java/lang/Object")] (va_A ([(qx, .inr (5, [.ref qc, .ref qf, .ref na, .ref df, .ref qi])), (qf, .inr (2, [v0, v1]))] ++ va_pl L (gE cO G)) sz) ([(qx, .inr (5, [.ref qc, .ref qf, .ref na, .ref df, .ref qi])), (qf, .inr (2, [u.1.1, u.1.2]))] ++ va_pl L (gE cO u.2)) t) (va_A ([(qx, .inr (5, [.ref qc, .ref qf, .ref na, .ref df, .ref qi])), (qf, .inr (2, [v0, v1]))] ++ va_pl L (gE cO G)) sz)) 0 0 (va_A ([(qx, .inr (5, [.ref qc, .ref qf, .ref na, .ref df, .ref qi])), (qf, .inr (2, [v0, v1]))] ++ va_pl L (gE cO G)) sz) := by
  cases wo with
  | none => exact p_Checker_checkTargetN l dC dI cB cI cL cZ cC cO qx qc qf na df qi v0 v1 s0 n nm t0 sz hL hs ho hlo hhi hsn hnm hn0 hn
  | some w =>
    obtain ⟨q1, q2, q3, q4, q5⟩ := hW w rfl
    exact p_Checker_checkTargetS l dC dI cB cI cL cZ cC cO qx qc qf na df qi v0 v1 w s0 n nm t0 sz hL hs ho hlo hhi hsn hnm hn0 hn q1 q2 q3 q4 q5
set_option maxHeartbeats 4000000 in
set_option maxRecDepth 100000 in
/-- checkSource(wire, side, n), with a wire or none -/
theorem p_Checker_checkSource (l : Launch) (dC : Nat → ClassId) (dI : Nat → Nat → Nat) (cB cI cL cZ cC cO : ClassId) (qx qc qf na df qi : Nat) (v0 v1 : Value) {L : List Nat} {G : PG} (wo : Option Nat) (s0 n nm : Nat) (t0 sz : Nat) (hL : gL L G) (hs : G.1 s0 = 3) (ho : ∀ z, G.2.2.1 s0 2 = some z → z < 2 ^ 31) (hlo : G.2.1 s0 3 < 100) (hhi : G.2.1 s0 4 < 100) (hsn : G.2.2.2.2.2 s0 0 = some nm) (hnm : G.1 nm = 1) (hn : n < 2 ^ 31) (hW : ∀ w, wo = some w → G.1 w = 2 ∧ G.2.1 w 1 < 3 ∧ G.2.1 w 2 < 100) (hpl : ∀ z, (G.2.2.1 nm 2) = some z → z < 2 ^ 31) : Met l y_Checker_checkSource w_Checker_checkSource ({ frames := 3, cells := 0, slots := 0, locals := 130 }) (va_Pc [.ref qx, va_rf wo, .ref s0, .int (nI n)] (wB2 (dC, dI) cl [(cB, .byte), (cI, .int), (cL, .long), (cZ, .boolean), (cC, .char), (cO, .object "java/lang/Object")] sz t0 ([(qx, .inr (5, [.ref qc, .ref qf, .ref na, .ref df, .ref qi])), (qf, .inr (2, [v0, v1]))] ++ va_pl L (gE cO G)))) (va_Qi (fun (r : Int32) (u : Value × Value) => r = bI (decide ((cks G wo s0 n (G.2.2.1 nm 2)) = none)) ∧ u = fpr (cks G wo s0 n (G.2.2.1 nm 2)) v0 v1) (fun u t => wA (dC, dI) cl [(cB, .byte), (cI, .int), (cL, .long), (cZ, .boolean), (cC, .char), (cO, .object "java/lang/Object")] (va_A ([(qx, .inr (5, [.ref qc, .ref qf, .ref na, .ref df, .ref qi])), (qf, .inr (2, [v0, v1]))] ++ va_pl L (gE cO G)) sz) ([(qx, .inr (5, [.ref qc, .ref qf, .ref na, .ref df, .ref qi])), (qf, .inr (2, [u.1, u.2]))] ++ va_pl L (gE cO G)) t) (va_A ([(qx, .inr (5, [.ref qc, .ref qf, .ref na, .ref df, .ref qi])), (qf, .inr (2, [v0, v1]))] ++ va_pl L (gE cO G)) sz)) 0 0 (va_A ([(qx, .inr (5, [.ref qc, .ref qf, .ref na, .ref df, .ref qi])), (qf, .inr (2, [v0, v1]))] ++ va_pl L (gE cO G)) sz) := by
  cases wo with
  | none => exact p_Checker_checkSourceN l dC dI cB cI cL cZ cC cO qx qc qf na df qi v0 v1 s0 n nm t0 sz hL hs ho hlo hhi hsn hnm hn hpl
  | some w =>
    obtain ⟨q1, q2, q3⟩ := hW w rfl
    exact p_Checker_checkSourceS l dC dI cB cI cL cZ cC cO qx qc qf na df qi v0 v1 w s0 n nm t0 sz hL hs ho hlo hhi hsn hnm hn q1 q2 q3 hpl
theorem mask_f {G : PG} {w s : Nat} (h : m_fits (G.2.2.1 s 2) (G.2.1 s 3) (G.2.1 s 4) (G.2.1 w 2) = true) (hw : G.2.1 w 2 ≤ 16) (hn : G.2.2.1 s 2 = none → G.2.1 s 3 = 0 ∧ G.2.1 s 4 = 0) : sd_mask (G.2.2.1 s 2) (G.2.1 s 3) (G.2.1 s 4) (G.2.1 w 2) = nI (m_set (m_bits (G.2.2.1 s 2) (G.2.1 s 3) (G.2.1 s 4) (G.2.1 w 2)) (G.2.1 s 3)) ∧ m_bits (G.2.2.1 s 2) (G.2.1 s 3) (G.2.1 s 4) (G.2.1 w 2) + G.2.1 s 3 ≤ 16 := by
  have hb : m_bits (G.2.2.1 s 2) (G.2.1 s 3) (G.2.1 s 4) (G.2.1 w 2) + G.2.1 s 3 ≤ 16 := by
    by_cases e : G.2.2.1 s 2 = none
    · have := hn e
      unfold m_bits; rw [if_pos e]; omega
    · have h1 := fits_le h e
      have h2 : G.2.1 s 4 < G.2.1 w 2 := by
        unfold m_fits at h; rw [if_neg e] at h; simp at h; exact h.2
      unfold m_bits; rw [if_neg e]; omega
  exact ⟨set_all _ (by omega) _ (by omega), hb⟩
/-- checkLink: nothing, or a fault and its place; the pool behind it (s1: the left side, s0: the right one) -/
def ckl (G : PG) (po wo : Option Nat) (s1 s0 : Nat) (nl np : Option Nat) : Option (Nat × Option Nat) × PG := match po with
  | none => (some (4, nl), G)
  | some p => if m_fits (G.2.2.1 s1 2) (G.2.1 s1 3) (G.2.1 s1 4) (G.2.1 p 2) = true then
      (if G.2.1 p 1 = 1 then ckt G wo s0 (m_bits (G.2.2.1 s1 2) (G.2.1 s1 3) (G.2.1 s1 4) (G.2.1 p 2)) np
       else if G.2.1 p 5 &&& m_set (m_bits (G.2.2.1 s1 2) (G.2.1 s1 3) (G.2.1 s1 4) (G.2.1 p 2)) (G.2.1 s1 3) = 0 then (cks (gN G p 5 (G.2.1 p 5 ||| m_set (m_bits (G.2.2.1 s1 2) (G.2.1 s1 3) (G.2.1 s1 4) (G.2.1 p 2)) (G.2.1 s1 3))) wo s0 (m_bits (G.2.2.1 s1 2) (G.2.1 s1 3) (G.2.1 s1 4) (G.2.1 p 2)) np, gN G p 5 (G.2.1 p 5 ||| m_set (m_bits (G.2.2.1 s1 2) (G.2.1 s1 3) (G.2.1 s1 4) (G.2.1 p 2)) (G.2.1 s1 3))) else (some (3, nl), G))
    else (some (5, G.2.2.1 s1 2), G)
