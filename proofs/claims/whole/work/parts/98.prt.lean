section PRT
variable {t0 qc qna qdf m : Nat} {ft tv : Nat → Int32} {nv : Nat → Nat} {T : Nat} {fk : Nat → Int32} {pp nn : Nat → Nat} {fh fl : Nat → Int64} {G G' : PG} {ad : Nat → Nat → Nat} {tg : Nat → Nat × Nat} {P P0 : PS} {c0 p0 : Nat}
theorem pas_of (h : SI ft tv nv P) (hz : P.1 13 = 0) (hk : P.2.2.1 7 (P.1 12) = 1) : pas P (sp_go (pt2 P)) := by
  have g12 : (sp_go (pt2 P)).1 12 = P.1 12 + 1 := if_pos hz
  refine ⟨rfl, rfl, rfl, rfl, rfl, by omega, hk, va_up_self _ _ _, va_up_self _ _ _, fun k j hh => ?_, rfl, h.2.2.2.2⟩
  show (if k = 26 then (fun i => if i = P.1 24 then P.1 27 else P.2.2.1 26 i) else (if k = 25 then (fun i => if i = P.1 24 then P.1 12 else P.2.2.1 25 i) else P.2.2.1 k)) j = _
  by_cases q6 : k = 26
  · subst q6; rw [if_pos rfl]; show (if j = P.1 24 then _ else P.2.2.1 26 j) = _; rw [if_neg (by rcases hh with z | z; exact absurd rfl z.2; exact z)]
  · rw [if_neg q6]
    by_cases q5 : k = 25
    · subst q5; rw [if_pos rfl]; show (if j = P.1 24 then _ else P.2.2.1 25 j) = _; rw [if_neg (by rcases hh with z | z; exact absurd rfl z.1; exact z)]
    · rw [if_neg q5]
theorem PBd.part (B : PBd ft tv nv T fk pp nn fh fl P) (hk : P.2.2.1 7 (P.1 12) = 1) (hr : P.1 24 - P.2.2.1 23 (P.1 15 - 1) < 12) : PBd ft tv nv T fk pp nn fh fl (sp_go (pt2 P)) ∧ (sp_go (pt2 P)).1 12 = P.1 12 + 1 ∧ (sp_go (pt2 P)).1 15 = P.1 15 ∧ (sp_go (pt2 P)).2.2.1 23 ((sp_go (pt2 P)).1 15 - 1) < (sp_go (pt2 P)).1 24 ∧ pas P (sp_go (pt2 P)) := by
  obtain ⟨hz, ht, ⟨hA, ho, hv⟩, ⟨hci, h23, h17⟩, hs⟩ := B
  have x := pas_of hs hz hk
  have hT := hv.2.1.1
  have b12 := ho.2
  have b27 : P.1 27 < 701 := by have := hci.2.2.2.1; omega
  have B2 : AB (pt2 P) := AB_of (AB_ars (k := 26) (i := P.1 24) (v := P.1 27) (AB_ars (k := 25) (i := P.1 24) (v := P.1 12) hA (show _ < 1002 by omega)) b27) rfl
  have t2 : tkv tv nv T (pt2 P).2.2.1 := by refine tkv_congr hv ?_ ?_ ?_ <;> rfl
  have o2 : okp T (pt2 P) := ho
  have og : okp T (sp_go (pt2 P)) := okp_go o2 (tk_next t2 o2.2 (Or.inl hk))
  have c2 : ci (pt2 P) := hci
  have e23 : (sp_go (pt2 P)).2.2.1 23 = P.2.2.1 23 := rfl
  have e24 : (sp_go (pt2 P)).1 24 = P.1 24 + 1 := rfl
  have e15 : (sp_go (pt2 P)).1 15 = P.1 15 := rfl
  refine ⟨⟨hz, ht.of rfl rfl rfl, ⟨AB_of B2 rfl, og, t2⟩, ⟨ci_go c2, ?_, h17⟩, ⟨SIc_part hs.1 x, SIq_part hs.1 hs.2.1 x, SIl_part hs.1 hs.2.1 hs.2.2.1 x, SIi_part (nv := nv) hs.2.1 hs.2.2.1 hs.2.2.2.1 x, fun z => by rw [e24] at z; omega⟩⟩, if_pos hz, rfl, ?_, x⟩
  · rw [e15, e23, e24]; omega
  · rw [e15, e23, e24]; omega
theorem REP.part (h : REP t0 qc qna qdf ft tv fh fl pp nn m G P c0) : True := trivial
theorem ch_u {f : Nat} (hz : P.1 13 = 0) : ch_loop ft tv nv (f + 1) P = if sg tv (nI 125) P = false then ch_loop ft tv nv f (sp_part ft tv nv P) else P := by
  rw [ch_loop_s]
  by_cases q : sg tv (nI 125) P = false
  · rw [if_pos ⟨hz, q⟩, if_pos q]
  · rw [if_neg (fun r => q r.2), if_neg q]
theorem ch_bad {f : Nat} (hz : P.1 13 = 0) (sf : sg tv (nI 125) P = false) (z : ¬ (sp_part ft tv nv P).1 13 = 0) : ¬ (sp_sign tv (nI 125) (ch_loop ft tv nv (f + 1) P)).1 13 = 0 ∧ ftv (sp_sign tv (nI 125) (ch_loop ft tv nv (f + 1) P)) = ftv (sp_part ft tv nv P) := by
  rw [ch_u hz, if_pos sf, ch_loop_e z]
  have s := stk_sign (tv := tv) (c := nI 125) z
  exact ⟨by rw [s.1]; exact z, by unfold ftv; rw [s.1, s.2]⟩
theorem part_no (hz : P.1 13 = 0) (k : ¬ (P.2.2.1 7 (P.1 12) = 1 ∧ decide (P.1 24 - P.2.2.1 23 (P.1 15 - 1) < 12) = true)) : sp_part ft tv nv P = if P.2.2.1 7 (P.1 12) = 1 then sp_wrong 2 (P.1 12) P else sp_syntax P := by
  unfold sp_part
  by_cases q : P.2.2.1 7 (P.1 12) = 1
  · have r : ¬ P.1 24 - P.2.2.1 23 (P.1 15 - 1) < 12 := fun r => k ⟨q, decide_eq_true r⟩
    have e : pt1 P = sp_wrong 2 (P.1 12) P := if_neg r
    have z : 0 < (pt1 P).1 13 := by rw [e]; unfold sp_wrong; rw [if_neg (by omega)]; show (0 : Nat) < 2; decide
    rw [if_pos q, if_pos q, if_pos z, e]
  · rw [if_neg q, if_neg q]
theorem part_yes (hz : P.1 13 = 0) (k : P.2.2.1 7 (P.1 12) = 1) (hr : P.1 24 - P.2.2.1 23 (P.1 15 - 1) < 12) : sp_part ft tv nv P = sp_sign tv (nI 59) (sp_sign tv (nI 41) (pt_loop ft tv nv 1002 (pt3 tv P))) := by
  have e : pt1 P = P := if_pos hr
  unfold sp_part
  rw [if_pos k, e, if_neg (by omega)]
theorem part_b2 (hz : P.1 13 = 0) (k : P.2.2.1 7 (P.1 12) = 1) (hr : P.1 24 - P.2.2.1 23 (P.1 15 - 1) < 12) (z : ¬ (pt3 tv P).1 13 = 0) : ¬ (sp_part ft tv nv P).1 13 = 0 ∧ ftv (sp_part ft tv nv P) = ftv (pt3 tv P) := by
  rw [part_yes hz k hr, pt_loop_e z]
  have s1 := stk_sign (tv := tv) (c := nI 41) z
  have z1 : ¬ (sp_sign tv (nI 41) (pt3 tv P)).1 13 = 0 := by rw [s1.1]; exact z
  have s2 := stk_sign (tv := tv) (c := nI 59) z1
  exact ⟨by rw [s2.1]; exact z1, by unfold ftv; rw [s2.1, s2.2, s1.1, s1.2]⟩
theorem z12_part : P.1 12 ≤ (sp_part ft tv nv P).1 12 := by
  have h1 : (pt1 P).1 12 = P.1 12 := by
    unfold pt1 sp_room; split
    · rfl
    · exact zk_wrong (by decide) (by decide)
  unfold sp_part
  split
  · split
    · omega
    · have a : (pt1 P).1 12 ≤ (pt3 tv (pt1 P)).1 12 := Nat.le_trans (z12_go (pt2 (pt1 P))) (z12_sign tv _ _)
      have b := z12_pt (ft := ft) (tv := tv) (nv := nv) 1002 (pt3 tv (pt1 P))
      have c := z12_sign tv (nI 41) (pt_loop ft tv nv 1002 (pt3 tv (pt1 P)))
      have d := z12_sign tv (nI 59) (sp_sign tv (nI 41) (pt_loop ft tv nv 1002 (pt3 tv (pt1 P))))
      omega
  · exact z12_syntax P
theorem z12_ch {ft tv : Nat → Int32} {nv : Nat → Nat} : ∀ (k : Nat) (P : PS), P.1 12 ≤ (ch_loop ft tv nv k P).1 12
  | 0, P => Nat.le_refl _
  | k + 1, P => by
    rw [ch_loop_s]
    split
    · exact Nat.le_trans z12_part (z12_ch k _)
    · exact Nat.le_refl _
theorem pt3_12 (hz : P.1 13 = 0) (z : (pt3 tv P).1 13 = 0) : (pt3 tv P).1 12 = P.1 12 + 1 + 1 := by
  have f := f_sign (show (sp_sign tv (nI 40) (sp_go (pt2 P))).1 13 = 0 from z)
  show (sp_sign tv (nI 40) (sp_go (pt2 P))).1 12 = _
  rw [f.2.2, go12 (P := sp_go (pt2 P)) hz, go12 (P := pt2 P) hz]; rfl
theorem ch_room {f : Nat} (B : PBd ft tv nv T fk pp nn fh fl P) (sf : sg tv (nI 125) P = false) (h0 : P0.1 12 ≤ P.1 12) : 4 * (P.1 12 - P0.1 12) + 4 ≤ kcc (sp_sign tv (nI 125) (ch_loop ft tv nv (f + 1) P)) P0 ∧ 700 * (P.1 12 - P0.1 12) + 610 ≤ kss (sp_sign tv (nI 125) (ch_loop ft tv nv (f + 1) P)) P0 := by
  have l1 := z12_sign tv (nI 125) (ch_loop ft tv nv (f + 1) P)
  by_cases z : (sp_part ft tv nv P).1 13 = 0
  · obtain ⟨-, -, -, -, -, -, k7⟩ := part_keep (ft := ft) B.2.2.1.2.1 B.2.2.1.2.2 B.2.2.1.1 B.1 B.2.2.2.1
    have l3 := (k7 z).2
    have l4 : (sp_part ft tv nv P).1 12 ≤ (ch_loop ft tv nv (f + 1) P).1 12 := by rw [ch_u B.1, if_pos sf]; exact z12_ch f _
    have g := kcc_g (sp_sign tv (nI 125) (ch_loop ft tv nv (f + 1) P)) P0
    omega
  · have g := kcc_f (P := P0) (ch_bad (f := f) B.1 sf z).1
    have l4 := z12_ch (ft := ft) (tv := tv) (nv := nv) (f + 1) P
    rw [g.1, g.2]
    omega
theorem ch_room2 {f : Nat} (B : PBd ft tv nv T fk pp nn fh fl P) (k : P.2.2.1 7 (P.1 12) = 1) (hr : P.1 24 - P.2.2.1 23 (P.1 15 - 1) < 12) (sf : sg tv (nI 125) P = false) (h0 : P0.1 12 ≤ P.1 12) (z3 : (pt3 tv P).1 13 = 0) : 4 * (P.1 12 - P0.1 12) + 4 + kcc (sp_part ft tv nv P) (pt3 tv P) ≤ kcc (sp_sign tv (nI 125) (ch_loop ft tv nv (f + 1) P)) P0 ∧ 700 * (P.1 12 - P0.1 12) + 610 + kss (sp_part ft tv nv P) (pt3 tv P) ≤ kss (sp_sign tv (nI 125) (ch_loop ft tv nv (f + 1) P)) P0 := by
  have l1 := z12_sign tv (nI 125) (ch_loop ft tv nv (f + 1) P)
  have e3 := pt3_12 B.1 z3
  have l2 : (pt3 tv P).1 12 ≤ (sp_part ft tv nv P).1 12 := by
    rw [part_yes B.1 k hr]
    have b := z12_pt (ft := ft) (tv := tv) (nv := nv) 1002 (pt3 tv P)
    have c := z12_sign tv (nI 41) (pt_loop ft tv nv 1002 (pt3 tv P))
    have d := z12_sign tv (nI 59) (sp_sign tv (nI 41) (pt_loop ft tv nv 1002 (pt3 tv P)))
    omega
  have l4 : (sp_part ft tv nv P).1 12 ≤ (ch_loop ft tv nv (f + 1) P).1 12 := by rw [ch_u B.1, if_pos sf]; exact z12_ch f _
  by_cases z : (sp_part ft tv nv P).1 13 = 0
  · have g := kcc_g (sp_sign tv (nI 125) (ch_loop ft tv nv (f + 1) P)) P0
    have q := kcc_t (P := pt3 tv P) z
    rw [q.1, q.2]
    omega
  · have g := kcc_f (P := P0) (ch_bad (f := f) B.1 sf z).1
    have q := kcc_f (P := pt3 tv P) z
    rw [g.1, g.2, q.1, q.2]
    omega
end PRT
section PR2
variable {ft tv : Nat → Int32} {nv : Nat → Nat} {T : Nat} {fk : Nat → Int32} {pp nn : Nat → Nat} {fh fl : Nat → Int64} {P : PS}
theorem part_24 (B : PBd ft tv nv T fk pp nn fh fl P) (hk : P.2.2.1 7 (P.1 12) = 1) (hr : P.1 24 - P.2.2.1 23 (P.1 15 - 1) < 12) : (sp_part ft tv nv P).1 24 = P.1 24 + 1 ∧ (sp_part ft tv nv P).2.2.1 23 = P.2.2.1 23 := by
  obtain ⟨hz, ht, ⟨hA, ho, hv⟩, ⟨hci, h23, h17⟩, hs⟩ := B
  have g := hci.1
  obtain ⟨B3, o3, t3, c3, z3, z24, a3, y3⟩ := pt3_ok ho hv hA hci hk (by omega)
  obtain ⟨r1, r2, r3, r4, r5, r6, r7⟩ := pt_keep (ft := ft) 1002 (pt3 tv P) o3 t3 B3 (fun _ => c3)
  rw [part_yes hz hk hr]
  refine ⟨?_, ?_⟩
  · rw [zk_sign (by decide) (by decide) (by decide), zk_sign (by decide) (by decide) (by decide), r4 24 (by unfold nz; decide), z24]
  · rw [ar_sign, ar_sign, r5 23 (by unfold nl; decide), a3 23 (by decide) (by decide)]
end PR2
/-- a new part, with its list -/
def prn (t0 : Nat) (G : PG) (a nm ls : Nat) : PG := gR (gR (gR (gR (gN (g0 G ls 7) ls 2 0) ls 0 (some t0)) a 1 (some ls)) a 2 none) a 0 (some nm)
theorem prn_gs {t0 : Nat} {G : PG} {a nm ls b : Nat} (h : b ≠ a) (h1 : b ≠ ls) : gs G (prn t0 G a nm ls) b := ((((((gs_0 h1).tr (gs_N h1)).tr (gs_R h1)).tr (gs_R h)).tr (gs_R h)).tr (gs_R h))
theorem prn_new {t0 : Nat} {G : PG} {a nm ls : Nat} {L : List Nat} (hL : gL L G) (ha : G.1 a = 5) (h1 : ls ∉ L) : isQ (prn t0 G a nm ls) a nm ls none ∧ LS0 t0 (prn t0 G a nm ls) ls ∧ gL (L ++ [ls]) (prn t0 G a nm ls) := by
  have am : a ∈ L := gL_m hL ha (by decide)
  have a1 : a ≠ ls := fun e => h1 (e ▸ am)
  have b1 := a1.symm
  refine ⟨⟨?_, ?_, ?_, ?_⟩, ⟨?_, ?_, ?_⟩, gL_new hL⟩ <;> simp [prn, g0, up2, va_up, a1, b1, ha]
