theorem wn_T {fk fp : Nat → Int32} {a : Nat} {y : Bool} {v0 v1 : Value} (h : wn_ok fk a y = true) : wn_to fk fp a y v0 v1 = (v0, v1) := by unfold wn_to; rw [if_pos h]
theorem wn_F {fk fp : Nat → Int32} {a : Nat} {y : Bool} {v0 v1 : Value} (h : wn_ok fk a y = false) : wn_to fk fp a y v0 v1 = (.int (if fk a = nI 3 ∨ fk a = nI 2 then nI 2 else nI 1), .int (fp a)) := by unfold wn_to; rw [if_neg (by rw [h]; decide)]
theorem wn_lt {fk : Nat → Int32} {a : Nat} {y : Bool} (hk : ¬ fk 1000 = nI 3) (ha : a ≤ 1000) (h : wn_ok fk a y = true) : a < 1000 := by
  unfold wn_ok at h; simp at h
  by_cases e : a = 1000
  · rw [e] at h; exact absurd h.1 hk
  · omega
/-- a new name -/
def nam (G : PG) (q : Nat) (hh tt : Int64) (pl : Option Nat) : PG := gO (gJ (gJ (g0 G q 1) q 0 hh) q 1 tt) q 2 pl
def isN (G : PG) (q : Nat) (hh tt : Int64) (pl : Option Nat) : Prop := G.1 q = 1 ∧ G.2.2.2.2.1 q 0 = hh ∧ G.2.2.2.2.1 q 1 = tt ∧ G.2.2.1 q 2 = pl
theorem isN.keep {G G' : PG} {q : Nat} {hh tt : Int64} {pl : Option Nat} (h : isN G q hh tt pl) (hg : gs G G' q) : isN G' q hh tt pl := by
  obtain ⟨g1, g2, g3, g4, g5, g6⟩ := hg
  unfold isN at h ⊢
  rw [g1, g3, g5]; exact h
theorem isN_new {G : PG} {L : List Nat} {q : Nat} {hh tt : Int64} {pl : Option Nat} (hL : gL L G) : isN (nam G q hh tt pl) q hh tt pl ∧ gL (L ++ [q]) (nam G q hh tt pl) ∧ ∀ b, b ≠ q → gs G (nam G q hh tt pl) b := by
  refine ⟨⟨va_up_self _ _ _, ?_, ?_, ?_⟩, gL_new hL, fun b hb => (((gs_0 hb).tr (gs_J hb)).tr (gs_J hb)).tr (gs_O hb)⟩ <;> simp [nam, up2]
theorem namE {cO : ClassId} {G : PG} {q : Nat} {hh tt : Int64} {pl : Option Nat} : va_up (gE cO G) q (.inr (7, [.long hh, .long tt, .int (oI pl)])) = gE cO (nam G q hh tt pl) := by
  funext b
  by_cases e : b = q
  · subst e
    rw [va_up_self, gE_1 (G := nam G b hh tt pl) (va_up_self _ _ _)]
    simp [nam, up2]
  · rw [va_up_ne _ _ e]
    exact (gE_s (G' := nam G q hh tt pl) ((((gs_0 e).tr (gs_J e)).tr (gs_J e)).tr (gs_O e))).symm
theorem isW_of {G : PG} {a nm k : Nat} (h : G.1 a = 2) : isW (wir G a nm k) a nm k := by
  refine ⟨h, ?_, ?_, ?_, ?_, ?_, ?_, ?_⟩ <;> simp [wir, up2]
/-- a wire: its width, and the place of a width that is none -/
def isV (G : PG) (q nm k w : Nat) (b : Option Nat) : Prop := G.1 q = 2 ∧ G.2.2.2.2.2 q 0 = some nm ∧ G.2.1 q 1 = k ∧ G.2.1 q 2 = w ∧ G.2.2.1 q 3 = b ∧ G.2.1 q 4 = 0 ∧ G.2.1 q 5 = 0 ∧ G.2.2.2.1 q 6 = false
/-- parsePin: what it answers; where it stands, and the fault; the token that tells the width -/
def ppn (fk : Nat → Int32) (pp : Nat → Nat) (y : Bool) (a : Nat) (v0 v1 : Value) : Bool × (Nat × Value × Value) × Option Nat :=
  if wn_ok fk a y = true then
    if wt_ok fk (a + 1) (nI 91) = true then
      if wt_ok fk (a + 1 + 1) (nI 4) = true then (wt_ok fk (a + 1 + 1 + 1) (nI 93), wt_to fk (nF pp) (a + 1 + 1 + 1) (nI 93) v0 v1, some (a + 1 + 1))
      else (false, wt_to fk (nF pp) (a + 1 + 1) (nI 4) v0 v1, none)
    else (true, (a + 1, v0, v1), none)
  else (false, (a, (wn_to fk (nF pp) a y v0 v1).1, (wn_to fk (nF pp) a y v0 v1).2), none)
def pwd (nn pp : Nat → Nat) : Option Nat → Nat × Option Nat
  | none => (1, none)
  | some t => if nn t < 1 ∨ 16 < nn t then (1, some (pp t)) else (nn t, none)
theorem LSx_el {t0 : Nat} {G : PG} {l : Nat} {xs : List Nat} (h : LSx t0 G l xs) (x : Nat) (hx : x ∈ xs) : 0 < G.1 x ∧ G.1 x < 7 := by
  rcases h with ⟨_, _, _, h4⟩ | ⟨d, n, h⟩
  · rw [h4] at hx; exact absurd hx List.not_mem_nil
  · exact h.2.2.2.2.2.2.2.2 x hx
theorem gs_NN {G G' : PG} {a k v : Nat} (h : gs G G' a) : gs (gN G a k v) (gN G' a k v) a := by
  refine ⟨h.1, ?_, h.2.2.1, h.2.2.2.1, h.2.2.2.2.1, h.2.2.2.2.2⟩
  show up2 G'.2.1 a k v a = up2 G.2.1 a k v a
  rw [up2_x, up2_x, h.2.1]
theorem isV_1 {G u : PG} {q n y : Nat} (h : u = if n < 1 ∨ 16 < n then gO G q 3 (some y) else gN G q 2 n) : u.1 = G.1 := by
  rw [h]; split <;> rfl
theorem isV_set {nn pp : Nat → Nat} {t : Nat} {G u : PG} {q nm k : Nat} (hW : isW G q nm k) (h : u = if nn t < 1 ∨ 16 < nn t then gO G q 3 (some (pp t)) else gN G q 2 (nn t)) : isV u q nm k (pwd nn pp (some t)).1 (pwd nn pp (some t)).2 ∧ ∀ b, b ≠ q → gs G u b := by
  obtain ⟨h1, h2, h3, h4, h5, h6, h7, h8⟩ := hW
  by_cases e : nn t < 1 ∨ 16 < nn t
  · rw [if_pos e] at h
    subst h
    refine ⟨?_, fun b hb => gs_O hb⟩
    rw [show pwd nn pp (some t) = (1, some (pp t)) from if_pos e]
    exact ⟨h1, h2, h3, h4, up2_s _ _ _ _, h6, h7, h8⟩
  · rw [if_neg e] at h
    subst h
    refine ⟨?_, fun b hb => gs_N hb⟩
    rw [show pwd nn pp (some t) = (nn t, none) from if_neg e]
    refine ⟨h1, h2, ?_, up2_s _ _ _ _, h5, ?_, ?_, h8⟩
    · show up2 G.2.1 q 2 _ q 1 = k; rw [up2_k _ _ _ _ (by decide)]; exact h3
    · show up2 G.2.1 q 2 _ q 4 = 0; rw [up2_k _ _ _ _ (by decide)]; exact h6
    · show up2 G.2.1 q 2 _ q 5 = 0; rw [up2_k _ _ _ _ (by decide)]; exact h7
theorem LSx_gs {t0 : Nat} {G G' : PG} {l q : Nat} {xs : List Nat} (h : LSx t0 G l xs) (hq : G.1 q = 2) (hb : ∀ b, b ≠ q → gs G G' b) (hk : G'.1 = G.1) : LSx t0 G' l xs := LSx_of h (fun b hb2 => hb b (fun e => by rcases hb2 with r | r; (have := h.k.1; rw [← r, e, hq] at this; cases this); (have := r.1; rw [e, hq] at this; omega))) (fun x _ => by rw [hk])
theorem d_Parser_parsePin_0 : decode b_Parser_parsePin 0 = .ok (.aload_n 0, 1) := by decide +kernel
theorem d_Parser_parsePin_1 : decode b_Parser_parsePin 1 = .ok (.aload_n 1, 1) := by decide +kernel
theorem d_Parser_parsePin_2 : decode b_Parser_parsePin 2 = .ok (.getfield 82, 3) := by decide +kernel
theorem d_Parser_parsePin_5 : decode b_Parser_parsePin 5 = .ok (.invokevirtual 54, 3) := by decide +kernel
theorem d_Parser_parsePin_8 : decode b_Parser_parsePin 8 = .ok (.bipush 8, 2) := by decide +kernel
theorem d_Parser_parsePin_10 : decode b_Parser_parsePin 10 = .ok (.if_icmp .ge 7, 3) := by decide +kernel
theorem d_Parser_parsePin_13 : decode b_Parser_parsePin 13 = .ok (.iconst 1, 1) := by decide +kernel
theorem d_Parser_parsePin_14 : decode b_Parser_parsePin 14 = .ok (.goto 4, 3) := by decide +kernel
theorem d_Parser_parsePin_17 : decode b_Parser_parsePin 17 = .ok (.iconst 0, 1) := by decide +kernel
theorem d_Parser_parsePin_18 : decode b_Parser_parsePin 18 = .ok (.invokevirtual 58, 3) := by decide +kernel
theorem d_Parser_parsePin_21 : decode b_Parser_parsePin 21 = .ok (.ifCond .ne 5, 3) := by decide +kernel
theorem d_Parser_parsePin_24 : decode b_Parser_parsePin 24 = .ok (.iconst 0, 1) := by decide +kernel
theorem d_Parser_parsePin_25 : decode b_Parser_parsePin 25 = .ok (.ireturn, 1) := by decide +kernel
theorem d_Parser_parsePin_26 : decode b_Parser_parsePin 26 = .ok (.new 37, 3) := by decide +kernel
theorem d_Parser_parsePin_29 : decode b_Parser_parsePin 29 = .ok (.dup, 1) := by decide +kernel
theorem d_Parser_parsePin_30 : decode b_Parser_parsePin 30 = .ok (.aload_n 0, 1) := by decide +kernel
theorem d_Parser_parsePin_31 : decode b_Parser_parsePin 31 = .ok (.invokevirtual 64, 3) := by decide +kernel
theorem d_Parser_parsePin_34 : decode b_Parser_parsePin 34 = .ok (.iload_n 2, 1) := by decide +kernel
theorem d_Parser_parsePin_35 : decode b_Parser_parsePin 35 = .ok (.invokespecial 85, 3) := by decide +kernel
theorem d_Parser_parsePin_38 : decode b_Parser_parsePin 38 = .ok (.astore_n 3, 1) := by decide +kernel
theorem d_Parser_parsePin_39 : decode b_Parser_parsePin 39 = .ok (.aload_n 1, 1) := by decide +kernel
theorem d_Parser_parsePin_40 : decode b_Parser_parsePin 40 = .ok (.aload_n 3, 1) := by decide +kernel
theorem d_Parser_parsePin_41 : decode b_Parser_parsePin 41 = .ok (.invokevirtual 88, 3) := by decide +kernel
theorem d_Parser_parsePin_44 : decode b_Parser_parsePin 44 = .ok (.aload_n 0, 1) := by decide +kernel
theorem d_Parser_parsePin_45 : decode b_Parser_parsePin 45 = .ok (.bipush 91, 2) := by decide +kernel
theorem d_Parser_parsePin_47 : decode b_Parser_parsePin 47 = .ok (.invokevirtual 79, 3) := by decide +kernel
theorem d_Parser_parsePin_50 : decode b_Parser_parsePin 50 = .ok (.ifCond .ne 5, 3) := by decide +kernel
theorem d_Parser_parsePin_53 : decode b_Parser_parsePin 53 = .ok (.iconst 1, 1) := by decide +kernel
theorem d_Parser_parsePin_54 : decode b_Parser_parsePin 54 = .ok (.ireturn, 1) := by decide +kernel
theorem d_Parser_parsePin_55 : decode b_Parser_parsePin 55 = .ok (.aload_n 0, 1) := by decide +kernel
theorem d_Parser_parsePin_56 : decode b_Parser_parsePin 56 = .ok (.getfield 16, 3) := by decide +kernel
theorem d_Parser_parsePin_59 : decode b_Parser_parsePin 59 = .ok (.istore 4, 2) := by decide +kernel
theorem d_Parser_parsePin_61 : decode b_Parser_parsePin 61 = .ok (.aload_n 0, 1) := by decide +kernel
theorem d_Parser_parsePin_62 : decode b_Parser_parsePin 62 = .ok (.iconst 4, 1) := by decide +kernel
theorem d_Parser_parsePin_63 : decode b_Parser_parsePin 63 = .ok (.invokevirtual 43, 3) := by decide +kernel
theorem d_Parser_parsePin_66 : decode b_Parser_parsePin 66 = .ok (.ifCond .ne 5, 3) := by decide +kernel
theorem d_Parser_parsePin_69 : decode b_Parser_parsePin 69 = .ok (.iconst 0, 1) := by decide +kernel
theorem d_Parser_parsePin_70 : decode b_Parser_parsePin 70 = .ok (.ireturn, 1) := by decide +kernel
theorem d_Parser_parsePin_71 : decode b_Parser_parsePin 71 = .ok (.aload_n 3, 1) := by decide +kernel
theorem d_Parser_parsePin_72 : decode b_Parser_parsePin 72 = .ok (.aload_n 0, 1) := by decide +kernel
theorem d_Parser_parsePin_73 : decode b_Parser_parsePin 73 = .ok (.getfield 20, 3) := by decide +kernel
theorem d_Parser_parsePin_76 : decode b_Parser_parsePin 76 = .ok (.getfield 92, 3) := by decide +kernel
theorem d_Parser_parsePin_79 : decode b_Parser_parsePin 79 = .ok (.iload 4, 2) := by decide +kernel
theorem d_Parser_parsePin_81 : decode b_Parser_parsePin 81 = .ok (.iaload, 1) := by decide +kernel
theorem d_Parser_parsePin_82 : decode b_Parser_parsePin 82 = .ok (.aload_n 0, 1) := by decide +kernel
theorem d_Parser_parsePin_83 : decode b_Parser_parsePin 83 = .ok (.getfield 20, 3) := by decide +kernel
theorem d_Parser_parsePin_86 : decode b_Parser_parsePin 86 = .ok (.getfield 96, 3) := by decide +kernel
theorem d_Parser_parsePin_89 : decode b_Parser_parsePin 89 = .ok (.iload 4, 2) := by decide +kernel
theorem d_Parser_parsePin_91 : decode b_Parser_parsePin 91 = .ok (.iaload, 1) := by decide +kernel
theorem d_Parser_parsePin_92 : decode b_Parser_parsePin 92 = .ok (.invokevirtual 99, 3) := by decide +kernel
theorem d_Parser_parsePin_95 : decode b_Parser_parsePin 95 = .ok (.aload_n 0, 1) := by decide +kernel
theorem d_Parser_parsePin_96 : decode b_Parser_parsePin 96 = .ok (.bipush 93, 2) := by decide +kernel
theorem d_Parser_parsePin_98 : decode b_Parser_parsePin 98 = .ok (.invokevirtual 43, 3) := by decide +kernel
theorem d_Parser_parsePin_101 : decode b_Parser_parsePin 101 = .ok (.ireturn, 1) := by decide +kernel
set_option maxHeartbeats 4000000 in
set_option maxRecDepth 100000 in
/-- parsePin(chip, kind) -/
theorem p_Parser_parsePin (l : Launch) (dC : Nat → ClassId) (dI : Nat → Nat → Nat) (cB cI cL cZ cC cO : ClassId) (qp qc qt qf qk ql qn qh qe : Nat) {w0 w1 : Value} (fk : Nat → Int32) (pp nn : Nat → Nat) (fh fl : Nat → Int64) {L : List Nat} {G : PG} (c0 k a lp : Nat) (xs : List Nat) (v0 v1 : Value) (t0 sz : Nat) (hL : gL L G) (ha0 : a ≤ 1000) (hk3 : ¬ fk 1000 = nI 3) (hnn : ∀ t, nn t ≤ 99) (ha : G.1 c0 = 6) (hp : G.2.2.2.2.2 c0 3 = some lp) (h : LSx t0 G lp xs) (hlen : xs.length ≤ 100) (hk : k < 3) : Met l y_Parser_parsePin w_Parser_parsePin ({ frames := 9, cells := 3, slots := 610, locals := 560 }) (va_Pc [.ref qp, .ref c0, .int (nI k)] (wB2 (dC, dI) cl [(cB, .byte), (cI, .int), (cL, .long), (cZ, .boolean), (cC, .char), (cO, .object "java/lang/Object")] sz t0 ([(qp, .inr (3, [.ref qc, .ref qt, .ref qf, .int (nI a)])), (qt, .inr (1, [w0, w1, .ref qk, .ref ql, .ref qn, .ref qh, .ref qe])), (qk, .inl (cI, 1001, .inl fk)), (ql, .inl (cI, 1001, .inl (nF pp))), (qn, .inl (cI, 1001, .inl (nF nn))), (qh, .inl (cL, 1001, .inr (.inl fh))), (qe, .inl (cL, 1001, .inr (.inl fl))), (qf, .inr (2, [v0, v1]))] ++ va_pl L (gE cO G)))) (va_Qi (fun (r : Int32) (u : (Nat × Value × Value) × List Nat × PG) => r = bI (ppn fk pp (decide (xs.length < 8)) a v0 v1).1 ∧ u.1 = (ppn fk pp (decide (xs.length < 8)) a v0 v1).2.1 ∧ (gL u.2.1 u.2.2 ∧ LFa G u.2.2 lp c0 ∧ u.2.2.1 c0 = 6 ∧ u.2.2.1 lp = 7) ∧ ((ppn fk pp (decide (xs.length < 8)) a v0 v1).1 = true → (∃ w nm, G.1 w = 0 ∧ G.1 nm = 0 ∧ isN u.2.2 nm (fh a) (fl a) (some (pp a)) ∧ isV u.2.2 w nm k (pwd nn pp (ppn fk pp (decide (xs.length < 8)) a v0 v1).2.2).1 (pwd nn pp (ppn fk pp (decide (xs.length < 8)) a v0 v1).2.2).2 ∧ LSx t0 u.2.2 lp (xs ++ [w]) ∧ gL u.2.1 u.2.2 ∧ LFa G u.2.2 lp c0 ∧ gs (if k = 0 then gN G c0 6 (G.2.1 c0 6 + 1) else G) u.2.2 c0))) (fun u t => wA (dC, dI) cl [(cB, .byte), (cI, .int), (cL, .long), (cZ, .boolean), (cC, .char), (cO, .object "java/lang/Object")] (va_A ([(qp, .inr (3, [.ref qc, .ref qt, .ref qf, .int (nI a)])), (qt, .inr (1, [w0, w1, .ref qk, .ref ql, .ref qn, .ref qh, .ref qe])), (qk, .inl (cI, 1001, .inl fk)), (ql, .inl (cI, 1001, .inl (nF pp))), (qn, .inl (cI, 1001, .inl (nF nn))), (qh, .inl (cL, 1001, .inr (.inl fh))), (qe, .inl (cL, 1001, .inr (.inl fl))), (qf, .inr (2, [v0, v1]))] ++ va_pl L (gE cO G)) sz) ([(qp, .inr (3, [.ref qc, .ref qt, .ref qf, .int (nI u.1.1)])), (qt, .inr (1, [w0, w1, .ref qk, .ref ql, .ref qn, .ref qh, .ref qe])), (qk, .inl (cI, 1001, .inl fk)), (ql, .inl (cI, 1001, .inl (nF pp))), (qn, .inl (cI, 1001, .inl (nF nn))), (qh, .inl (cL, 1001, .inr (.inl fh))), (qe, .inl (cL, 1001, .inr (.inl fl))), (qf, .inr (2, [u.1.2.1, u.1.2.2]))] ++ va_pl u.2.1 (gE cO u.2.2)) t) (va_A ([(qp, .inr (3, [.ref qc, .ref qt, .ref qf, .int (nI a)])), (qt, .inr (1, [w0, w1, .ref qk, .ref ql, .ref qn, .ref qh, .ref qe])), (qk, .inl (cI, 1001, .inl fk)), (ql, .inl (cI, 1001, .inl (nF pp))), (qn, .inl (cI, 1001, .inl (nF nn))), (qh, .inl (cL, 1001, .inr (.inl fh))), (qe, .inl (cL, 1001, .inr (.inl fl))), (qf, .inr (2, [v0, v1]))] ++ va_pl L (gE cO G)) sz)) 3 610 (va_A ([(qp, .inr (3, [.ref qc, .ref qt, .ref qf, .int (nI a)])), (qt, .inr (1, [w0, w1, .ref qk, .ref ql, .ref qn, .ref qh, .ref qe])), (qk, .inl (cI, 1001, .inl fk)), (ql, .inl (cI, 1001, .inl (nF pp))), (qn, .inl (cI, 1001, .inl (nF nn))), (qh, .inl (cL, 1001, .inr (.inl fh))), (qe, .inl (cL, 1001, .inr (.inl fl))), (qf, .inr (2, [v0, v1]))] ++ va_pl L (gE cO G)) sz) := by
  refine Met.ofW (cc := b_Parser_parsePin) (maxL := 5) (ret := (some ClassFile.FieldType.boolean)) (by decide) rfl ?_
  intro p e s m args below meth c s₁ B hml hv
  obtain ⟨rfl, ⟨hsz, hP, hK, hD0, hF⟩, hE⟩ := hv
  have hx := B.exec
  have hb := B.bytes
  have hr := B.returns
  have hts := atoms_spec (ws := w_Parser_parsePin) B.pre
  have hts : ∀ w ∈ tb, w.before _ s = true := fun w h => hts w (List.mem_cons_of_mem _ h)
  have hown : s.vm.findClass R_Parser = some m.cls := findClass_of_methodNamed B.named
  have hlocks := B.notSynchronized
  subst hsz
  have hD := hD0.self (sz := s.heap.size)
  generalize hAe : va_A ([(qp, .inr (3, [.ref qc, .ref qt, .ref qf, .int (nI a)])), (qt, .inr (1, [w0, w1, .ref qk, .ref ql, .ref qn, .ref qh, .ref qe])), (qk, .inl (cI, 1001, .inl fk)), (ql, .inl (cI, 1001, .inl (nF pp))), (qn, .inl (cI, 1001, .inl (nF nn))), (qh, .inl (cL, 1001, .inr (.inl fh))), (qe, .inl (cL, 1001, .inr (.inl fl))), (qf, .inr (2, [v0, v1]))] ++ va_pl L (gE cO G)) s.heap.size = A at hD hF hE ⊢
  have hA : ∀ q : Nat, s.heap.size ≤ q → A q := fun q h => by rw [← hAe]; exact Or.inr h
  have hS : va_S A s.heap s.heap [] := va_S.rf
  have hP : va_P (dC, dI) cl ([(qp, .inr (3, [.ref qc, .ref qt, .ref qf, .int (nI a)])), (qt, .inr (1, [w0, w1, .ref qk, .ref ql, .ref qn, .ref qh, .ref qe])), (qk, .inl (cI, 1001, .inl fk)), (ql, .inl (cI, 1001, .inl (nF pp))), (qn, .inl (cI, 1001, .inl (nF nn))), (qh, .inl (cL, 1001, .inr (.inl fh))), (qe, .inl (cL, 1001, .inr (.inl fl))), (qf, .inr (2, [v0, v1]))] ++ va_pl L (gE cO G)) s.heap := hP
  have hl := lv_entry ([.ref qp, .ref c0, .int (nI k)]) (n := 5) (Nat.le_of_ble_eq_true rfl)
  rw [lg_entry_eq]
  generalize (lg_sl ([.ref qp, .ref c0, .int (nI k)]) ++ List.replicate (5 - (lg_sl ([.ref qp, .ref c0, .int (nI k)])).length) Slot.unset).toArray = ls at hl ⊢
  have hl : lv_has ls 5 [(0, .ref qp), (1, .ref c0), (2, .int (nI k))] := hl
  refine lv_aload_n hx hb d_Parser_parsePin_0 rfl (lv_at hl 0 rfl) ?_
  refine lv_aload_n hx hb d_Parser_parsePin_1 rfl (lv_at hl 1 rfl) ?_
  refine pq_get (D := (dC, dI)) (ci := 6) (v := .ref lp) (C := R_Chip) (T := F_Chip) (N := 9) hx hb hts i_Chip hown hK hP (gL_m hL ha (by decide)) (gE_6 (G := G) ha) rfl 3 (by decide) (hts _ k_174) (fun _ h9 => h9) (congrArg (fun z9 => some (va_rf z9)) hp) d_Parser_parsePin_2 ?_
  refine wd_i (cx := []) (wr := [(qp, .inr (3, [.ref qc, .ref qt, .ref qf, .int (nI a)])), (qt, .inr (1, [w0, w1, .ref qk, .ref ql, .ref qn, .ref qh, .ref qe])), (qk, .inl (cI, 1001, .inl fk)), (ql, .inl (cI, 1001, .inl (nF pp))), (qn, .inl (cI, 1001, .inl (nF nn))), (qh, .inl (cL, 1001, .inr (.inl fh))), (qe, .inl (cL, 1001, .inr (.inl fl))), (qf, .inr (2, [v0, v1]))]) (pl := va_pl L (gE cO G)) (va_runV (As := []) (rest := [.ref qp]) ⟨hx, hb, hml, hown, hts⟩ (p_List_size l dC dI cB cI cL cZ cC cO (G := G) lp t0 _ hL h.k.1) (cwV 0 hts (good_V k_537 k_325 k_326 k_7 k_327) rfl rfl rfl (by decide +kernel) ⟨Nat.le_of_ble_eq_true rfl, Nat.le_of_ble_eq_true rfl⟩) (wd_preV (ci := 4) (r := (R_List, F_List, 3)) hK hP hD hS hA hF hE [] (by decide) rfl rfl (pq_at (gL_m hL h.k.1 (by decide)) (gE_7 (G := G) h.k.1))) rfl rfl hl.1 rfl (lv_room (Nat.le_of_ble_eq_true rfl)) d_Parser_parsePin_5 ⟨Nat.le_of_ble_eq_true rfl, Nat.le_of_ble_eq_true rfl⟩) hP hD hS hA [] [0, 1, 2, 3, 4, 5, 6, 7] rfl rfl (by decide) (by decide) (fun r_2 _ H locs w_1 hP hD hS => ?_)
  have hP : va_P (dC, dI) cl ([(qp, .inr (3, [.ref qc, .ref qt, .ref qf, .int (nI a)])), (qt, .inr (1, [w0, w1, .ref qk, .ref ql, .ref qn, .ref qh, .ref qe])), (qk, .inl (cI, 1001, .inl fk)), (ql, .inl (cI, 1001, .inl (nF pp))), (qn, .inl (cI, 1001, .inl (nF nn))), (qh, .inl (cL, 1001, .inr (.inl fh))), (qe, .inl (cL, 1001, .inr (.inl fl))), (qf, .inr (2, [v0, v1]))] ++ va_pl L (gE cO G)) H := hP
  have hD : va_D A ([(qp, .inr (3, [.ref qc, .ref qt, .ref qf, .int (nI a)])), (qt, .inr (1, [w0, w1, .ref qk, .ref ql, .ref qn, .ref qh, .ref qe])), (qk, .inl (cI, 1001, .inl fk)), (ql, .inl (cI, 1001, .inl (nF pp))), (qn, .inl (cI, 1001, .inl (nF nn))), (qh, .inl (cL, 1001, .inr (.inl fh))), (qe, .inl (cL, 1001, .inr (.inl fl))), (qf, .inr (2, [v0, v1]))] ++ va_pl L (gE cO G)) := hD
  rw [h.k.2] at w_1
  subst w_1
  refine lv_bipush (v := nI 8) hx hb d_Parser_parsePin_8 (by decide) ?_
  refine nv_icmp_ge (tgt := 17) hx hb (by omega) (by omega) d_Parser_parsePin_10 (by decide) (fun c_3 => ?_) (fun c_3 => ?_)
  · refine lv_iconst (v := nI 0) hx hb d_Parser_parsePin_17 (by decide) ?_
    refine we_i (cx := [(qp, .inr (3, [.ref qc, .ref qt, .ref qf, .int (nI a)])), (qt, .inr (1, [w0, w1, .ref qk, .ref ql, .ref qn, .ref qh, .ref qe])), (qk, .inl (cI, 1001, .inl fk)), (ql, .inl (cI, 1001, .inl (nF pp))), (qf, .inr (2, [v0, v1]))]) (wr := [(qn, .inl (cI, 1001, .inl (nF nn))), (qh, .inl (cL, 1001, .inr (.inl fh))), (qe, .inl (cL, 1001, .inr (.inl fl)))]) (pl := va_pl L (gE cO G)) (va_runV (As := [.int (nI 0)]) (rest := []) ⟨hx, hb, hml, hown, hts⟩ (c_Parser_wantNameWithRoom l dC dI cB cI cL cZ cC cO qp qc qt qf qk ql v0 v1 fk (nF pp) a false _ (by omega)) (cwV 1 hts (good_V k_538 k_540 s_Parser_wantNameWithRoom k_4 k_541) rfl rfl rfl (by decide +kernel) ⟨Nat.le_of_ble_eq_true rfl, Nat.le_of_ble_eq_true rfl⟩) (wc_preV (k0 := 0) (ci := 3) (r := (R_Parser, F_Parser, 4)) hK hP hD hS hA hF [0, 1, 2, 3, 7] (by decide) rfl rfl rfl) rfl rfl hl.1 rfl (lv_room (Nat.le_of_ble_eq_true rfl)) d_Parser_parsePin_18 ⟨Nat.le_of_ble_eq_true rfl, Nat.le_of_ble_eq_true rfl⟩) hP hD hS hA [0, 1, 2, 3, 7] [4, 5, 6] rfl rfl (by decide) (by decide) (fun r_7 u_5 H locs w_6 hP hD hS => ?_)
    have hP : va_P (dC, dI) cl ([(qn, .inl (cI, 1001, .inl (nF nn))), (qh, .inl (cL, 1001, .inr (.inl fh))), (qe, .inl (cL, 1001, .inr (.inl fl))), (qp, .inr (3, [.ref qc, .ref qt, .ref qf, .int (nI a)])), (qt, .inr (1, [w0, w1, .ref qk, .ref ql, .ref qn, .ref qh, .ref qe])), (qk, .inl (cI, 1001, .inl fk)), (ql, .inl (cI, 1001, .inl (nF pp))), (qf, .inr (2, [u_5.1, u_5.2]))] ++ va_pl L (gE cO G)) H := hP
    have hD : va_D A ([(qn, .inl (cI, 1001, .inl (nF nn))), (qh, .inl (cL, 1001, .inr (.inl fh))), (qe, .inl (cL, 1001, .inr (.inl fl))), (qp, .inr (3, [.ref qc, .ref qt, .ref qf, .int (nI a)])), (qt, .inr (1, [w0, w1, .ref qk, .ref ql, .ref qn, .ref qh, .ref qe])), (qk, .inl (cI, 1001, .inl fk)), (ql, .inl (cI, 1001, .inl (nF pp))), (qf, .inr (2, [u_5.1, u_5.2]))] ++ va_pl L (gE cO G)) := hD
    obtain ⟨r_7e, u_5e⟩ := w_6
    subst r_7e
    have tk_4 : wn_ok fk a false = false := by unfold wn_ok; simp
    rw [wn_F tk_4] at u_5e
    subst u_5e
    have hP : va_P (dC, dI) cl ([(qn, .inl (cI, 1001, .inl (nF nn))), (qh, .inl (cL, 1001, .inr (.inl fh))), (qe, .inl (cL, 1001, .inr (.inl fl))), (qp, .inr (3, [.ref qc, .ref qt, .ref qf, .int (nI a)])), (qt, .inr (1, [w0, w1, .ref qk, .ref ql, .ref qn, .ref qh, .ref qe])), (qk, .inl (cI, 1001, .inl fk)), (ql, .inl (cI, 1001, .inl (nF pp))), (qf, .inr (2, [.int (if fk a = nI 3 ∨ fk a = nI 2 then nI 2 else nI 1), .int (nI (pp a))]))] ++ va_pl L (gE cO G)) H := hP
    have hD : va_D A ([(qn, .inl (cI, 1001, .inl (nF nn))), (qh, .inl (cL, 1001, .inr (.inl fh))), (qe, .inl (cL, 1001, .inr (.inl fl))), (qp, .inr (3, [.ref qc, .ref qt, .ref qf, .int (nI a)])), (qt, .inr (1, [w0, w1, .ref qk, .ref ql, .ref qn, .ref qh, .ref qe])), (qk, .inl (cI, 1001, .inl fk)), (ql, .inl (cI, 1001, .inl (nF pp))), (qf, .inr (2, [.int (if fk a = nI 3 ∨ fk a = nI 2 then nI 2 else nI 1), .int (nI (pp a))]))] ++ va_pl L (gE cO G)) := hD
    refine nv_bif_ne (tgt := 26) hx hb d_Parser_parsePin_21 (by decide) (fun c_8 => ?_) (fun c_8 => ?_)
    · exact absurd (tk_4.symm.trans c_8) (by decide)
    · refine lv_iconst (v := nI 0) hx hb d_Parser_parsePin_24 (by decide) ?_
      have hX : (ppn fk pp (decide (xs.length < 8)) a v0 v1) = (false, (a, .int (if fk a = nI 3 ∨ fk a = nI 2 then nI 2 else nI 1), .int (nI (pp a))), none) := by rw [show decide (xs.length < 8) = false from (by simp; omega)]; unfold ppn; rw [if_neg (by rw [tk_4]; decide), wn_F tk_4]
      refine W.widen (k := 3) (n := 610) (by omega) (by omega) ?_
      exact wr_z (x := false) hx hb hr hlocks ((a, .int (if fk a = nI 3 ∨ fk a = nI 2 then nI 2 else nI 1), .int (nI (pp a))), L, G) ⟨by rw [hX], by rw [hX], ⟨hL, fun b _ _ _ _ => gs.rf _ _, ha, h.k.1⟩, fun q9 => by rw [hX] at q9; exact Bool.noConfusion q9⟩ hK (hP.part [3, 4, 5, 6, 0, 1, 2, 7] rfl) (hD.part [3, 4, 5, 6, 0, 1, 2, 7] (by decide) rfl) hS d_Parser_parsePin_25
  · refine lv_iconst (v := nI 1) hx hb d_Parser_parsePin_13 (by decide) ?_
    refine lv_goto (tgt := 18) hx hb d_Parser_parsePin_14 (by decide) ?_
    refine we_i (cx := [(qp, .inr (3, [.ref qc, .ref qt, .ref qf, .int (nI a)])), (qt, .inr (1, [w0, w1, .ref qk, .ref ql, .ref qn, .ref qh, .ref qe])), (qk, .inl (cI, 1001, .inl fk)), (ql, .inl (cI, 1001, .inl (nF pp))), (qf, .inr (2, [v0, v1]))]) (wr := [(qn, .inl (cI, 1001, .inl (nF nn))), (qh, .inl (cL, 1001, .inr (.inl fh))), (qe, .inl (cL, 1001, .inr (.inl fl)))]) (pl := va_pl L (gE cO G)) (va_runV (As := [.int (nI 1)]) (rest := []) ⟨hx, hb, hml, hown, hts⟩ (c_Parser_wantNameWithRoom l dC dI cB cI cL cZ cC cO qp qc qt qf qk ql v0 v1 fk (nF pp) a true _ (by omega)) (cwV 1 hts (good_V k_538 k_540 s_Parser_wantNameWithRoom k_4 k_541) rfl rfl rfl (by decide +kernel) ⟨Nat.le_of_ble_eq_true rfl, Nat.le_of_ble_eq_true rfl⟩) (wc_preV (k0 := 0) (ci := 3) (r := (R_Parser, F_Parser, 4)) hK hP hD hS hA hF [0, 1, 2, 3, 7] (by decide) rfl rfl rfl) rfl rfl hl.1 rfl (lv_room (Nat.le_of_ble_eq_true rfl)) d_Parser_parsePin_18 ⟨Nat.le_of_ble_eq_true rfl, Nat.le_of_ble_eq_true rfl⟩) hP hD hS hA [0, 1, 2, 3, 7] [4, 5, 6] rfl rfl (by decide) (by decide) (fun r_12 u_10 H locs w_11 hP hD hS => ?_)
    have hP : va_P (dC, dI) cl ([(qn, .inl (cI, 1001, .inl (nF nn))), (qh, .inl (cL, 1001, .inr (.inl fh))), (qe, .inl (cL, 1001, .inr (.inl fl))), (qp, .inr (3, [.ref qc, .ref qt, .ref qf, .int (nI a)])), (qt, .inr (1, [w0, w1, .ref qk, .ref ql, .ref qn, .ref qh, .ref qe])), (qk, .inl (cI, 1001, .inl fk)), (ql, .inl (cI, 1001, .inl (nF pp))), (qf, .inr (2, [u_10.1, u_10.2]))] ++ va_pl L (gE cO G)) H := hP
    have hD : va_D A ([(qn, .inl (cI, 1001, .inl (nF nn))), (qh, .inl (cL, 1001, .inr (.inl fh))), (qe, .inl (cL, 1001, .inr (.inl fl))), (qp, .inr (3, [.ref qc, .ref qt, .ref qf, .int (nI a)])), (qt, .inr (1, [w0, w1, .ref qk, .ref ql, .ref qn, .ref qh, .ref qe])), (qk, .inl (cI, 1001, .inl fk)), (ql, .inl (cI, 1001, .inl (nF pp))), (qf, .inr (2, [u_10.1, u_10.2]))] ++ va_pl L (gE cO G)) := hD
    obtain ⟨r_12e, u_10e⟩ := w_11
    subst r_12e
    by_cases tk_9 : wn_ok fk a true = true
    · rw [wn_T tk_9] at u_10e
      subst u_10e
      have hb_tk_9 : a < 1000 := wn_lt hk3 (by omega) tk_9
      have hP : va_P (dC, dI) cl ([(qn, .inl (cI, 1001, .inl (nF nn))), (qh, .inl (cL, 1001, .inr (.inl fh))), (qe, .inl (cL, 1001, .inr (.inl fl))), (qp, .inr (3, [.ref qc, .ref qt, .ref qf, .int (nI a)])), (qt, .inr (1, [w0, w1, .ref qk, .ref ql, .ref qn, .ref qh, .ref qe])), (qk, .inl (cI, 1001, .inl fk)), (ql, .inl (cI, 1001, .inl (nF pp))), (qf, .inr (2, [v0, v1]))] ++ va_pl L (gE cO G)) H := hP
      have hD : va_D A ([(qn, .inl (cI, 1001, .inl (nF nn))), (qh, .inl (cL, 1001, .inr (.inl fh))), (qe, .inl (cL, 1001, .inr (.inl fl))), (qp, .inr (3, [.ref qc, .ref qt, .ref qf, .int (nI a)])), (qt, .inr (1, [w0, w1, .ref qk, .ref ql, .ref qn, .ref qh, .ref qe])), (qk, .inl (cI, 1001, .inl fk)), (ql, .inl (cI, 1001, .inl (nF pp))), (qf, .inr (2, [v0, v1]))] ++ va_pl L (gE cO G)) := hD
      refine nv_bif_ne (tgt := 26) hx hb d_Parser_parsePin_21 (by decide) (fun c_13 => ?_) (fun c_13 => ?_)
      · refine pq_new (ci := 8) (fs := [.null, .int (nI 0), .int (nI 0), .int (nI 0), .int (nI 0), .int (nI 0), .int (nI 0)]) (C := R_Wire) (T := F_Wire) (N := 7) (fn := fun q9 => gE cO (g0 G q9 2)) hx hb hts i_Wire t_Wire t_Wire_ok hown (hts _ k_560) (hts _ k_208) (hts _ k_11) hK hP hD hS hA rfl (fun j hj => by rcases (show j = 0 ∨ j = 1 ∨ j = 2 ∨ j = 3 ∨ j = 4 ∨ j = 5 ∨ j = 6 by omega) with rfl | rfl | rfl | rfl | rfl | rfl | rfl <;> rfl) (Nat.le_of_ble_eq_true rfl) (Nat.le_of_ble_eq_true rfl) (fun q9 => nE_2 (G := G) q9) d_Parser_parsePin_26 (fun q_14 H nq_14 hP hD hS => ?_)
        have kf_15 : (g0 G q_14 2).1 c0 = 6 := (g0_k hL ha (by decide) nq_14)
        have ne_16 : c0 ≠ q_14 := g0_ne hL ha (by decide) nq_14
        have kf_17 : (g0 G q_14 2).1 lp = 7 := (g0_k hL h.k.1 (by decide) nq_14)
        have ne_18 : lp ≠ q_14 := g0_ne hL h.k.1 (by decide) nq_14
        have fa_19 : (g0 G q_14 2).2.2.2.2.2 c0 3 = some lp := (congrFun ((gs_0 ne_16).2.2.2.2.2) 3).trans hp
        have hL0 := hL
        have hz9 : G.1 q_14 = 0 := g0_n hL nq_14
        replace hL := gL_new (a := q_14) (n := 2) hL
        have hP : va_P (dC, dI) cl ([(qn, .inl (cI, 1001, .inl (nF nn))), (qh, .inl (cL, 1001, .inr (.inl fh))), (qe, .inl (cL, 1001, .inr (.inl fl))), (qp, .inr (3, [.ref qc, .ref qt, .ref qf, .int (nI a)])), (qt, .inr (1, [w0, w1, .ref qk, .ref ql, .ref qn, .ref qh, .ref qe])), (qk, .inl (cI, 1001, .inl fk)), (ql, .inl (cI, 1001, .inl (nF pp))), (qf, .inr (2, [v0, v1]))] ++ va_pl (L ++ [q_14]) (gE cO (g0 G q_14 2))) H := hP
        have hD : va_D A ([(qn, .inl (cI, 1001, .inl (nF nn))), (qh, .inl (cL, 1001, .inr (.inl fh))), (qe, .inl (cL, 1001, .inr (.inl fl))), (qp, .inr (3, [.ref qc, .ref qt, .ref qf, .int (nI a)])), (qt, .inr (1, [w0, w1, .ref qk, .ref ql, .ref qn, .ref qh, .ref qe])), (qk, .inl (cI, 1001, .inl fk)), (ql, .inl (cI, 1001, .inl (nF pp))), (qf, .inr (2, [v0, v1]))] ++ va_pl (L ++ [q_14]) (gE cO (g0 G q_14 2))) := hD
        refine lv_dup hx hb d_Parser_parsePin_29 rfl ?_
        refine lv_aload_n hx hb d_Parser_parsePin_30 rfl (lv_at hl 0 rfl) ?_
        refine we_q (cx := [(qp, .inr (3, [.ref qc, .ref qt, .ref qf, .int (nI a)])), (qt, .inr (1, [w0, w1, .ref qk, .ref ql, .ref qn, .ref qh, .ref qe])), (ql, .inl (cI, 1001, .inl (nF pp))), (qh, .inl (cL, 1001, .inr (.inl fh))), (qe, .inl (cL, 1001, .inr (.inl fl)))]) (wr := [(qn, .inl (cI, 1001, .inl (nF nn))), (qk, .inl (cI, 1001, .inl fk)), (qf, .inr (2, [v0, v1]))]) (pl := va_pl (L ++ [q_14]) (gE cO (g0 G q_14 2))) (va_runV (As := []) (rest := [.ref q_14, .ref q_14]) ⟨hx, hb, hml, hown, hts⟩ (c_Parser_takeName l dC dI cB cI cL cZ cC cO qp qt ql qh qe (nF pp) fh fl a _ (by omega)) (cwV 0 hts (good_V k_543 k_545 s_Parser_takeName k_4 k_546) rfl rfl rfl (by decide +kernel) ⟨Nat.le_of_ble_eq_true rfl, Nat.le_of_ble_eq_true rfl⟩) (wc_preV (k0 := 3) (ci := 3) (r := (R_Parser, F_Parser, 4)) hK hP hD hS hA hF [3, 4, 6, 1, 2] (by decide) rfl rfl rfl) rfl rfl hl.1 rfl (lv_room (Nat.le_of_ble_eq_true rfl)) d_Parser_parsePin_31 ⟨Nat.le_of_ble_eq_true rfl, Nat.le_of_ble_eq_true rfl⟩) hP hD hS hA [3, 4, 6, 1, 2] [0, 5, 7] rfl rfl (by decide) (by decide) (fun r_21 nm1 H locs w_20 hP hD hS => ?_)
        have hP : va_P (dC, dI) cl ([(qn, .inl (cI, 1001, .inl (nF nn))), (qk, .inl (cI, 1001, .inl fk)), (qf, .inr (2, [v0, v1])), (qp, .inr (3, [.ref qc, .ref qt, .ref qf, .int (nI (min (a + 1) 1000))])), (qt, .inr (1, [w0, w1, .ref qk, .ref ql, .ref qn, .ref qh, .ref qe])), (ql, .inl (cI, 1001, .inl (nF pp))), (qh, .inl (cL, 1001, .inr (.inl fh))), (qe, .inl (cL, 1001, .inr (.inl fl))), (nm1, .inr (7, [.long (fh a), .long (fl a), .int (nI (pp a))]))] ++ va_pl (L ++ [q_14]) (gE cO (g0 G q_14 2))) H := hP
        have hD : va_D A ([(qn, .inl (cI, 1001, .inl (nF nn))), (qk, .inl (cI, 1001, .inl fk)), (qf, .inr (2, [v0, v1])), (qp, .inr (3, [.ref qc, .ref qt, .ref qf, .int (nI (min (a + 1) 1000))])), (qt, .inr (1, [w0, w1, .ref qk, .ref ql, .ref qn, .ref qh, .ref qe])), (ql, .inl (cI, 1001, .inl (nF pp))), (qh, .inl (cL, 1001, .inr (.inl fh))), (qe, .inl (cL, 1001, .inr (.inl fl))), (nm1, .inr (7, [.long (fh a), .long (fl a), .int (nI (pp a))]))] ++ va_pl (L ++ [q_14]) (gE cO (g0 G q_14 2))) := hD
        subst w_20
        obtain ⟨nnm1, hP, hD⟩ := pq_in (X := [(qn, .inl (cI, 1001, .inl (nF nn))), (qk, .inl (cI, 1001, .inl fk)), (qf, .inr (2, [v0, v1])), (qp, .inr (3, [.ref qc, .ref qt, .ref qf, .int (nI (min (a + 1) 1000))])), (qt, .inr (1, [w0, w1, .ref qk, .ref ql, .ref qn, .ref qh, .ref qe])), (ql, .inl (cI, 1001, .inl (nF pp))), (qh, .inl (cL, 1001, .inr (.inl fh))), (qe, .inl (cL, 1001, .inr (.inl fl)))]) hP hD
        have hP : va_P (dC, dI) cl ([(qn, .inl (cI, 1001, .inl (nF nn))), (qk, .inl (cI, 1001, .inl fk)), (qf, .inr (2, [v0, v1])), (qp, .inr (3, [.ref qc, .ref qt, .ref qf, .int (nI (min (a + 1) 1000))])), (qt, .inr (1, [w0, w1, .ref qk, .ref ql, .ref qn, .ref qh, .ref qe])), (ql, .inl (cI, 1001, .inl (nF pp))), (qh, .inl (cL, 1001, .inr (.inl fh))), (qe, .inl (cL, 1001, .inr (.inl fl)))] ++ va_pl (L ++ [q_14] ++ [nm1]) (gE cO (nam (g0 G q_14 2) nm1 (fh a) (fl a) (some (pp a))))) H := by rw [← namE]; exact hP
        have hD : va_D A ([(qn, .inl (cI, 1001, .inl (nF nn))), (qk, .inl (cI, 1001, .inl fk)), (qf, .inr (2, [v0, v1])), (qp, .inr (3, [.ref qc, .ref qt, .ref qf, .int (nI (min (a + 1) 1000))])), (qt, .inr (1, [w0, w1, .ref qk, .ref ql, .ref qn, .ref qh, .ref qe])), (ql, .inl (cI, 1001, .inl (nF pp))), (qh, .inl (cL, 1001, .inr (.inl fh))), (qe, .inl (cL, 1001, .inr (.inl fl)))] ++ va_pl (L ++ [q_14] ++ [nm1]) (gE cO (nam (g0 G q_14 2) nm1 (fh a) (fl a) (some (pp a))))) := by rw [← namE]; exact hD
        obtain ⟨z11, z12, z13⟩ := isN_new (q := nm1) (hh := fh a) (tt := fl a) (pl := some (pp a)) hL
        have hq1 : (g0 G q_14 2).1 nm1 = 0 := g0_n hL nnm1
        generalize nam (g0 G q_14 2) nm1 (fh a) (fl a) (some (pp a)) = G1 at hP hD z11 z12 z13
        have hL := z12
        rw [show min (a + 1) 1000 = a + 1 by omega] at hP hD
        have hP : va_P (dC, dI) cl ([(qn, .inl (cI, 1001, .inl (nF nn))), (qk, .inl (cI, 1001, .inl fk)), (qf, .inr (2, [v0, v1])), (qp, .inr (3, [.ref qc, .ref qt, .ref qf, .int (nI (a + 1))])), (qt, .inr (1, [w0, w1, .ref qk, .ref ql, .ref qn, .ref qh, .ref qe])), (ql, .inl (cI, 1001, .inl (nF pp))), (qh, .inl (cL, 1001, .inr (.inl fh))), (qe, .inl (cL, 1001, .inr (.inl fl)))] ++ va_pl (L ++ [q_14] ++ [nm1]) (gE cO G1)) H := hP
        have hD : va_D A ([(qn, .inl (cI, 1001, .inl (nF nn))), (qk, .inl (cI, 1001, .inl fk)), (qf, .inr (2, [v0, v1])), (qp, .inr (3, [.ref qc, .ref qt, .ref qf, .int (nI (a + 1))])), (qt, .inr (1, [w0, w1, .ref qk, .ref ql, .ref qn, .ref qh, .ref qe])), (ql, .inl (cI, 1001, .inl (nF pp))), (qh, .inl (cL, 1001, .inr (.inl fh))), (qe, .inl (cL, 1001, .inr (.inl fl)))] ++ va_pl (L ++ [q_14] ++ [nm1]) (gE cO G1)) := hD
        have kf_22 : G1.1 c0 = 6 := (z13 c0 (fun e9 => absurd ((kf_15).symm.trans ((congrArg (g0 G q_14 2).1 e9).trans hq1)) (by decide))).1.trans kf_15
        have kf_23 : G1.1 lp = 7 := (z13 lp (fun e9 => absurd ((kf_17).symm.trans ((congrArg (g0 G q_14 2).1 e9).trans hq1)) (by decide))).1.trans kf_17
        have kf_24 : G1.1 q_14 = 2 := (z13 q_14 (fun e9 => absurd (((g0_q G q_14 2)).symm.trans ((congrArg (g0 G q_14 2).1 e9).trans hq1)) (by decide))).1.trans (g0_q G q_14 2)
        refine lv_iload_n hx hb d_Parser_parsePin_34 rfl (lv_at hl 2 rfl) ?_
        refine wd_v (cx := []) (wr := [(qn, .inl (cI, 1001, .inl (nF nn))), (qk, .inl (cI, 1001, .inl fk)), (qf, .inr (2, [v0, v1])), (qp, .inr (3, [.ref qc, .ref qt, .ref qf, .int (nI (a + 1))])), (qt, .inr (1, [w0, w1, .ref qk, .ref ql, .ref qn, .ref qh, .ref qe])), (ql, .inl (cI, 1001, .inl (nF pp))), (qh, .inl (cL, 1001, .inr (.inl fh))), (qe, .inl (cL, 1001, .inr (.inl fl)))]) (pl := va_pl (L ++ [q_14] ++ [nm1]) (gE cO G1)) (va_runI (As := [.ref nm1, .int (nI k)]) (rest := [.ref q_14]) ⟨hx, hb, hml, hown, hts⟩ (p_Wire_init l dC dI cB cI cL cZ cC cO (G := G1) q_14 nm1 k t0 _ hL kf_24) (cwI 2 hts (good_c k_212) rfl rfl rfl (hts _ k_11) (hts _ k_561) (hts _ k_211) rfl (by decide +kernel) ⟨Nat.le_of_ble_eq_true rfl, Nat.le_of_ble_eq_true rfl⟩) (wd_preS hK hP hD hS hA hF hE [] (by decide) rfl) rfl rfl hl.1 rfl (lv_room (Nat.le_of_ble_eq_true rfl)) d_Parser_parsePin_35 ⟨Nat.le_of_ble_eq_true rfl, Nat.le_of_ble_eq_true rfl⟩) hP hD hS hA [] [0, 1, 2, 3, 4, 5, 6, 7] rfl rfl (by decide) (by decide) (fun _ H locs w_25 hP hD hS => ?_)
        have hP : va_P (dC, dI) cl ([(qn, .inl (cI, 1001, .inl (nF nn))), (qk, .inl (cI, 1001, .inl fk)), (qf, .inr (2, [v0, v1])), (qp, .inr (3, [.ref qc, .ref qt, .ref qf, .int (nI (a + 1))])), (qt, .inr (1, [w0, w1, .ref qk, .ref ql, .ref qn, .ref qh, .ref qe])), (ql, .inl (cI, 1001, .inl (nF pp))), (qh, .inl (cL, 1001, .inr (.inl fh))), (qe, .inl (cL, 1001, .inr (.inl fl)))] ++ va_pl (L ++ [q_14] ++ [nm1]) (gE cO (wir G1 q_14 nm1 k))) H := hP
        have hD : va_D A ([(qn, .inl (cI, 1001, .inl (nF nn))), (qk, .inl (cI, 1001, .inl fk)), (qf, .inr (2, [v0, v1])), (qp, .inr (3, [.ref qc, .ref qt, .ref qf, .int (nI (a + 1))])), (qt, .inr (1, [w0, w1, .ref qk, .ref ql, .ref qn, .ref qh, .ref qe])), (ql, .inl (cI, 1001, .inl (nF pp))), (qh, .inl (cL, 1001, .inr (.inl fh))), (qe, .inl (cL, 1001, .inr (.inl fl)))] ++ va_pl (L ++ [q_14] ++ [nm1]) (gE cO (wir G1 q_14 nm1 k))) := hD
        have y1 := isW_of (nm := nm1) (k := k) kf_24
        have hwn : q_14 ≠ nm1 := fun e9 => by have q9 := kf_24; rw [e9, z11.1] at q9; cases q9
        have y2 : isN (wir G1 q_14 nm1 k) nm1 (fh a) (fl a) (some (pp a)) := z11.keep (wir_gs (Ne.symm hwn))
        have y3 : ∀ b, b ≠ q_14 → b ≠ nm1 → gs G (wir G1 q_14 nm1 k) b := fun b e1 e2 => ((gs_0 e1).tr (z13 b e2)).tr (wir_gs e1)
        have hL : gL (L ++ [q_14] ++ [nm1]) (wir G1 q_14 nm1 k) := hL
        generalize wir G1 q_14 nm1 k = G2 at hP hD y1 y2 y3 hL
        have hw0 : G.1 q_14 = 0 := g0_n hL0 nq_14
        have hn0 : G.1 nm1 = 0 := by have q9 := hq1; rw [(gs_0 (Ne.symm hwn)).1] at q9; exact q9
        have yo : ∀ b, G.1 b ≠ 0 → gs G G2 b := fun b hb9 => y3 b (fun e9 => hb9 (by rw [e9]; exact hw0)) (fun e9 => hb9 (by rw [e9]; exact hn0))
        have ka := (yo c0 (by rw [ha]; decide)).1.trans ha
        have hp2 : G2.2.2.2.2.2 c0 3 = some lp := by rw [(yo c0 (by rw [ha]; decide)).2.2.2.2.2]; exact hp
        have l2 : LSx t0 G2 lp xs := LSx_of h (fun b hb9 => yo b (by rcases hb9 with q9 | q9; (rw [q9, h.k.1]; decide); (have := q9.1; omega))) (fun x hx => (yo x (by have := LSx_el h x hx; omega)).1)
        refine lv_astore_n (lv' := [(3, .ref q_14), (0, .ref qp), (1, .ref c0), (2, .int (nI k))]) hx hb d_Parser_parsePin_38 rfl hl (by decide) rfl (fun ls hl => ?_)
        refine lv_aload_n hx hb d_Parser_parsePin_39 rfl (lv_at hl 2 rfl) ?_
        refine lv_aload_n hx hb d_Parser_parsePin_40 rfl (lv_at hl 0 rfl) ?_
        refine wd_v (cx := []) (wr := [(qn, .inl (cI, 1001, .inl (nF nn))), (qk, .inl (cI, 1001, .inl fk)), (qf, .inr (2, [v0, v1])), (qp, .inr (3, [.ref qc, .ref qt, .ref qf, .int (nI (a + 1))])), (qt, .inr (1, [w0, w1, .ref qk, .ref ql, .ref qn, .ref qh, .ref qe])), (ql, .inl (cI, 1001, .inl (nF pp))), (qh, .inl (cL, 1001, .inr (.inl fh))), (qe, .inl (cL, 1001, .inr (.inl fl)))]) (pl := va_pl (L ++ [q_14] ++ [nm1]) (gE cO G2)) (va_runV (As := [.ref q_14]) (rest := []) ⟨hx, hb, hml, hown, hts⟩ (p_Chip_addPin l dC dI cB cI cL cZ cC cO (G := G2) c0 q_14 lp xs t0 _ hL ka hp2 l2 y1.1 (by rw [y1.2.2.1]; exact hk) (by omega)) (cwV 1 hts (good_V k_562 k_251 k_252 k_9 k_253) rfl rfl rfl (by decide +kernel) ⟨Nat.le_of_ble_eq_true rfl, Nat.le_of_ble_eq_true rfl⟩) (wd_preV (ci := 6) (r := (R_Chip, F_Chip, 9)) hK hP hD hS hA hF hE [] (by decide) rfl rfl (pq_at (gL_m hL ka (by decide)) (gE_6 (G := G2) ka))) rfl rfl hl.1 rfl (lv_room (Nat.le_of_ble_eq_true rfl)) d_Parser_parsePin_41 ⟨Nat.le_of_ble_eq_true rfl, Nat.le_of_ble_eq_true rfl⟩) hP hD hS hA [] [0, 1, 2, 3, 4, 5, 6, 7] rfl rfl (by decide) (by decide) (fun u H locs w_27 hP hD hS => ?_)
        have hP : va_P (dC, dI) cl ([(qn, .inl (cI, 1001, .inl (nF nn))), (qk, .inl (cI, 1001, .inl fk)), (qf, .inr (2, [v0, v1])), (qp, .inr (3, [.ref qc, .ref qt, .ref qf, .int (nI (a + 1))])), (qt, .inr (1, [w0, w1, .ref qk, .ref ql, .ref qn, .ref qh, .ref qe])), (ql, .inl (cI, 1001, .inl (nF pp))), (qh, .inl (cL, 1001, .inr (.inl fh))), (qe, .inl (cL, 1001, .inr (.inl fl)))] ++ va_pl u.1 (gE cO u.2)) H := hP
        have hD : va_D A ([(qn, .inl (cI, 1001, .inl (nF nn))), (qk, .inl (cI, 1001, .inl fk)), (qf, .inr (2, [v0, v1])), (qp, .inr (3, [.ref qc, .ref qt, .ref qf, .int (nI (a + 1))])), (qt, .inr (1, [w0, w1, .ref qk, .ref ql, .ref qn, .ref qh, .ref qe])), (ql, .inl (cI, 1001, .inl (nF pp))), (qh, .inl (cL, 1001, .inr (.inl fh))), (qe, .inl (cL, 1001, .inr (.inl fl)))] ++ va_pl u.1 (gE cO u.2)) := hD
        have hu := w_27
        have hwc : q_14 ≠ c0 := fun e9 => by have q9 := y1.1; rw [e9, ka] at q9; cases q9
        have hwl : q_14 ≠ lp := fun e9 => by have q9 := y1.1; rw [e9, l2.k.1] at q9; cases q9
        have gw : gs G2 u.2 q_14 := hu.2.2.1 q_14 (by rw [y1.1]; decide) hwl hwc (fun q9 => by have := q9.1; rw [y1.1] at this; omega)
        have gn : gs G2 u.2 nm1 := hu.2.2.1 nm1 (by rw [y2.1]; decide) (fun e9 => by have q9 := y2.1; rw [e9, l2.k.1] at q9; cases q9) (fun e9 => by have q9 := y2.1; rw [e9, ka] at q9; cases q9) (fun q9 => by have := q9.1; rw [y2.1] at this; omega)
        have b1 := y1.keep gw
        have b2 := y2.keep gn
        have b3 : LFa G u.2 lp c0 := fun b h1 h2 h3 h4 => by
          have e1 := yo b h1
          exact e1.tr (hu.2.2.1 b (by rw [e1.1]; exact h1) h2 h3 (by rw [e1.1, e1.2.1]; exact h4))
        have b4 : gs (if k = 0 then gN G c0 6 (G.2.1 c0 6 + 1) else G) u.2 c0 := by
          have e1 := yo c0 (by rw [ha]; decide)
          have e2 := hu.2.2.2
          rw [y1.2.2.1] at e2
          by_cases hk0 : k = 0
          · rw [if_pos hk0, show G2.2.1 c0 6 = G.2.1 c0 6 from congrFun e1.2.1 6] at e2; rw [if_pos hk0]; exact (gs_NN e1).tr e2
          · rw [if_neg hk0] at e2 ⊢; exact e1.tr e2
        have hL := hu.2.1
        refine lv_aload_n hx hb d_Parser_parsePin_44 rfl (lv_at hl 1 rfl) ?_
        refine lv_bipush (v := nI 91) hx hb d_Parser_parsePin_45 (by decide) ?_
        refine we_i (cx := [(qp, .inr (3, [.ref qc, .ref qt, .ref qf, .int (nI (a + 1))])), (qt, .inr (1, [w0, w1, .ref qk, .ref ql, .ref qn, .ref qh, .ref qe])), (qk, .inl (cI, 1001, .inl fk))]) (wr := [(qn, .inl (cI, 1001, .inl (nF nn))), (qf, .inr (2, [v0, v1])), (ql, .inl (cI, 1001, .inl (nF pp))), (qh, .inl (cL, 1001, .inr (.inl fh))), (qe, .inl (cL, 1001, .inr (.inl fl)))]) (pl := va_pl u.1 (gE cO u.2)) (va_runV (As := [.int (nI 91)]) (rest := []) ⟨hx, hb, hml, hown, hts⟩ (c_Parser_takes l dC dI cB cI cL cZ cC cO qp qc qt qf qk ql fk (a + 1) (nI 91) _ (by omega)) (cwV 1 hts (good_V k_563 k_565 s_Parser_takes k_4 k_566) rfl rfl rfl (by decide +kernel) ⟨Nat.le_of_ble_eq_true rfl, Nat.le_of_ble_eq_true rfl⟩) (wc_preV (k0 := 3) (ci := 3) (r := (R_Parser, F_Parser, 4)) hK hP hD hS hA hF [3, 4, 1] (by decide) rfl rfl rfl) rfl rfl hl.1 rfl (lv_room (Nat.le_of_ble_eq_true rfl)) d_Parser_parsePin_47 ⟨Nat.le_of_ble_eq_true rfl, Nat.le_of_ble_eq_true rfl⟩) hP hD hS hA [3, 4, 1] [0, 2, 5, 6, 7] rfl rfl (by decide) (by decide) (fun r_32 u_30 H locs w_31 hP hD hS => ?_)
        have hP : va_P (dC, dI) cl ([(qn, .inl (cI, 1001, .inl (nF nn))), (qf, .inr (2, [v0, v1])), (ql, .inl (cI, 1001, .inl (nF pp))), (qh, .inl (cL, 1001, .inr (.inl fh))), (qe, .inl (cL, 1001, .inr (.inl fl))), (qp, .inr (3, [.ref qc, .ref qt, .ref qf, .int (nI u_30)])), (qt, .inr (1, [w0, w1, .ref qk, .ref ql, .ref qn, .ref qh, .ref qe])), (qk, .inl (cI, 1001, .inl fk))] ++ va_pl u.1 (gE cO u.2)) H := hP
        have hD : va_D A ([(qn, .inl (cI, 1001, .inl (nF nn))), (qf, .inr (2, [v0, v1])), (ql, .inl (cI, 1001, .inl (nF pp))), (qh, .inl (cL, 1001, .inr (.inl fh))), (qe, .inl (cL, 1001, .inr (.inl fl))), (qp, .inr (3, [.ref qc, .ref qt, .ref qf, .int (nI u_30)])), (qt, .inr (1, [w0, w1, .ref qk, .ref ql, .ref qn, .ref qh, .ref qe])), (qk, .inl (cI, 1001, .inl fk))] ++ va_pl u.1 (gE cO u.2)) := hD
        obtain ⟨r_32e, u_30e⟩ := w_31
        subst r_32e
        by_cases tk_29 : wt_ok fk (a + 1) (nI 91) = true
        · rw [if_pos tk_29] at u_30e
          subst u_30e
          have hb_tk_29 : (a + 1) < 1000 := wt_lt tk_29
          refine nv_bif_ne (tgt := 55) hx hb d_Parser_parsePin_50 (by decide) (fun c_33 => ?_) (fun c_33 => ?_)
          · refine lv_aload_n hx hb d_Parser_parsePin_55 rfl (lv_at hl 1 rfl) ?_
            refine va_get (D := (dC, dI)) (ci := 3) (v := .int (nI ((a + 1) + 1))) (C := R_Parser) (T := F_Parser) (N := 4) hx hb hts i_Parser hown hK hP 5 rfl rfl 3 (by decide) (hts _ k_119) (fun _ h9 => h9) rfl d_Parser_parsePin_56 ?_
            refine lv_istore (lv' := [(4, .int (nI ((a + 1) + 1))), (3, .ref q_14), (0, .ref qp), (1, .ref c0), (2, .int (nI k))]) hx hb d_Parser_parsePin_59 hl (by decide) rfl (fun ls hl => ?_)
            refine lv_aload_n hx hb d_Parser_parsePin_61 rfl (lv_at hl 2 rfl) ?_
            refine lv_iconst (v := nI 4) hx hb d_Parser_parsePin_62 (by decide) ?_
            refine we_i (cx := [(qp, .inr (3, [.ref qc, .ref qt, .ref qf, .int (nI ((a + 1) + 1))])), (qt, .inr (1, [w0, w1, .ref qk, .ref ql, .ref qn, .ref qh, .ref qe])), (qk, .inl (cI, 1001, .inl fk)), (ql, .inl (cI, 1001, .inl (nF pp))), (qf, .inr (2, [v0, v1]))]) (wr := [(qn, .inl (cI, 1001, .inl (nF nn))), (qh, .inl (cL, 1001, .inr (.inl fh))), (qe, .inl (cL, 1001, .inr (.inl fl)))]) (pl := va_pl u.1 (gE cO u.2)) (va_runV (As := [.int (nI 4)]) (rest := []) ⟨hx, hb, hml, hown, hts⟩ (c_Parser_want l dC dI cB cI cL cZ cC cO qp qc qt qf qk ql v0 v1 fk (nF pp) ((a + 1) + 1) (nI 4) _ (by omega)) (cwV 1 hts (good_V k_529 k_531 s_Parser_want k_4 k_532) rfl rfl rfl (by decide +kernel) ⟨Nat.le_of_ble_eq_true rfl, Nat.le_of_ble_eq_true rfl⟩) (wc_preV (k0 := 5) (ci := 3) (r := (R_Parser, F_Parser, 4)) hK hP hD hS hA hF [5, 6, 7, 2, 1] (by decide) rfl rfl rfl) rfl rfl hl.1 rfl (lv_room (Nat.le_of_ble_eq_true rfl)) d_Parser_parsePin_63 ⟨Nat.le_of_ble_eq_true rfl, Nat.le_of_ble_eq_true rfl⟩) hP hD hS hA [5, 6, 7, 2, 1] [0, 3, 4] rfl rfl (by decide) (by decide) (fun r_37 u_35 H locs w_36 hP hD hS => ?_)
            have hP : va_P (dC, dI) cl ([(qn, .inl (cI, 1001, .inl (nF nn))), (qh, .inl (cL, 1001, .inr (.inl fh))), (qe, .inl (cL, 1001, .inr (.inl fl))), (qp, .inr (3, [.ref qc, .ref qt, .ref qf, .int (nI u_35.1)])), (qt, .inr (1, [w0, w1, .ref qk, .ref ql, .ref qn, .ref qh, .ref qe])), (qk, .inl (cI, 1001, .inl fk)), (ql, .inl (cI, 1001, .inl (nF pp))), (qf, .inr (2, [u_35.2.1, u_35.2.2]))] ++ va_pl u.1 (gE cO u.2)) H := hP
            have hD : va_D A ([(qn, .inl (cI, 1001, .inl (nF nn))), (qh, .inl (cL, 1001, .inr (.inl fh))), (qe, .inl (cL, 1001, .inr (.inl fl))), (qp, .inr (3, [.ref qc, .ref qt, .ref qf, .int (nI u_35.1)])), (qt, .inr (1, [w0, w1, .ref qk, .ref ql, .ref qn, .ref qh, .ref qe])), (qk, .inl (cI, 1001, .inl fk)), (ql, .inl (cI, 1001, .inl (nF pp))), (qf, .inr (2, [u_35.2.1, u_35.2.2]))] ++ va_pl u.1 (gE cO u.2)) := hD
            obtain ⟨r_37e, u_35e⟩ := w_36
            subst r_37e
            by_cases tk_34 : wt_ok fk ((a + 1) + 1) (nI 4) = true
            · rw [wt_T tk_34] at u_35e
              subst u_35e
              have hb_tk_34 : ((a + 1) + 1) < 1000 := wt_lt tk_34
              have hP : va_P (dC, dI) cl ([(qn, .inl (cI, 1001, .inl (nF nn))), (qh, .inl (cL, 1001, .inr (.inl fh))), (qe, .inl (cL, 1001, .inr (.inl fl))), (qp, .inr (3, [.ref qc, .ref qt, .ref qf, .int (nI (((a + 1) + 1) + 1))])), (qt, .inr (1, [w0, w1, .ref qk, .ref ql, .ref qn, .ref qh, .ref qe])), (qk, .inl (cI, 1001, .inl fk)), (ql, .inl (cI, 1001, .inl (nF pp))), (qf, .inr (2, [v0, v1]))] ++ va_pl u.1 (gE cO u.2)) H := hP
              have hD : va_D A ([(qn, .inl (cI, 1001, .inl (nF nn))), (qh, .inl (cL, 1001, .inr (.inl fh))), (qe, .inl (cL, 1001, .inr (.inl fl))), (qp, .inr (3, [.ref qc, .ref qt, .ref qf, .int (nI (((a + 1) + 1) + 1))])), (qt, .inr (1, [w0, w1, .ref qk, .ref ql, .ref qn, .ref qh, .ref qe])), (qk, .inl (cI, 1001, .inl fk)), (ql, .inl (cI, 1001, .inl (nF pp))), (qf, .inr (2, [v0, v1]))] ++ va_pl u.1 (gE cO u.2)) := hD
              refine nv_bif_ne (tgt := 71) hx hb d_Parser_parsePin_66 (by decide) (fun c_38 => ?_) (fun c_38 => ?_)
              · refine lv_aload_n hx hb d_Parser_parsePin_71 rfl (lv_at hl 1 rfl) ?_
                refine lv_aload_n hx hb d_Parser_parsePin_72 rfl (lv_at hl 2 rfl) ?_
                refine va_get (D := (dC, dI)) (ci := 3) (v := .ref qt) (C := R_Parser) (T := F_Parser) (N := 4) hx hb hts i_Parser hown hK hP 3 rfl rfl 1 (by decide) (hts _ k_117) (fun _ h9 => h9) rfl d_Parser_parsePin_73 ?_
                refine va_get (D := (dC, dI)) (ci := 1) (v := .ref qn) (C := R_Text) (T := F_Text) (N := 7) hx hb hts i_Text hown hK hP 4 rfl rfl 4 (by decide) (hts _ k_45) (fun _ h9 => h9) rfl d_Parser_parsePin_76 ?_
                refine lv_iload hx hb d_Parser_parsePin_79 (lv_at hl 0 rfl) ?_
                refine nv_iald hx hb hK hP 0 1 rfl rfl (by omega) (by decide) d_Parser_parsePin_81 ?_
                refine lv_aload_n hx hb d_Parser_parsePin_82 rfl (lv_at hl 2 rfl) ?_
                refine va_get (D := (dC, dI)) (ci := 3) (v := .ref qt) (C := R_Parser) (T := F_Parser) (N := 4) hx hb hts i_Parser hown hK hP 3 rfl rfl 1 (by decide) (hts _ k_117) (fun _ h9 => h9) rfl d_Parser_parsePin_83 ?_
                refine va_get (D := (dC, dI)) (ci := 1) (v := .ref ql) (C := R_Text) (T := F_Text) (N := 7) hx hb hts i_Text hown hK hP 4 rfl rfl 3 (by decide) (hts _ k_43) (fun _ h9 => h9) rfl d_Parser_parsePin_86 ?_
                refine lv_iload hx hb d_Parser_parsePin_89 (lv_at hl 0 rfl) ?_
                refine nv_iald hx hb hK hP 6 1 rfl rfl (by omega) (by decide) d_Parser_parsePin_91 ?_
                refine wd_v (cx := []) (wr := [(qn, .inl (cI, 1001, .inl (nF nn))), (qh, .inl (cL, 1001, .inr (.inl fh))), (qe, .inl (cL, 1001, .inr (.inl fl))), (qp, .inr (3, [.ref qc, .ref qt, .ref qf, .int (nI (((a + 1) + 1) + 1))])), (qt, .inr (1, [w0, w1, .ref qk, .ref ql, .ref qn, .ref qh, .ref qe])), (qk, .inl (cI, 1001, .inl fk)), (ql, .inl (cI, 1001, .inl (nF pp))), (qf, .inr (2, [v0, v1]))]) (pl := va_pl u.1 (gE cO u.2)) (va_runV (As := [.int (nI (nn ((a + 1) + 1))), .int (nI (pp ((a + 1) + 1)))]) (rest := []) ⟨hx, hb, hml, hown, hts⟩ (p_Wire_setWidth l dC dI cB cI cL cZ cC cO (G := u.2) q_14 (nn ((a + 1) + 1)) (pp ((a + 1) + 1)) t0 _ hL b1.1 (by have := hnn; exact Nat.lt_of_le_of_lt (hnn _) (by decide))) (cwV 2 hts (good_V k_567 k_568 k_569 k_11 k_570) rfl rfl rfl (by decide +kernel) ⟨Nat.le_of_ble_eq_true rfl, Nat.le_of_ble_eq_true rfl⟩) (wd_preV (ci := 8) (r := (R_Wire, F_Wire, 7)) hK hP hD hS hA hF hE [] (by decide) rfl rfl (pq_at (gL_m hL b1.1 (by decide)) (gE_2 (G := u.2) b1.1))) rfl rfl hl.1 rfl (lv_room (Nat.le_of_ble_eq_true rfl)) d_Parser_parsePin_92 ⟨Nat.le_of_ble_eq_true rfl, Nat.le_of_ble_eq_true rfl⟩) hP hD hS hA [] [0, 1, 2, 3, 4, 5, 6, 7] rfl rfl (by decide) (by decide) (fun u3 H locs w_39 hP hD hS => ?_)
                have hP : va_P (dC, dI) cl ([(qn, .inl (cI, 1001, .inl (nF nn))), (qh, .inl (cL, 1001, .inr (.inl fh))), (qe, .inl (cL, 1001, .inr (.inl fl))), (qp, .inr (3, [.ref qc, .ref qt, .ref qf, .int (nI (((a + 1) + 1) + 1))])), (qt, .inr (1, [w0, w1, .ref qk, .ref ql, .ref qn, .ref qh, .ref qe])), (qk, .inl (cI, 1001, .inl fk)), (ql, .inl (cI, 1001, .inl (nF pp))), (qf, .inr (2, [v0, v1]))] ++ va_pl u.1 (gE cO u3)) H := hP
                have hD : va_D A ([(qn, .inl (cI, 1001, .inl (nF nn))), (qh, .inl (cL, 1001, .inr (.inl fh))), (qe, .inl (cL, 1001, .inr (.inl fl))), (qp, .inr (3, [.ref qc, .ref qt, .ref qf, .int (nI (((a + 1) + 1) + 1))])), (qt, .inr (1, [w0, w1, .ref qk, .ref ql, .ref qn, .ref qh, .ref qe])), (qk, .inl (cI, 1001, .inl fk)), (ql, .inl (cI, 1001, .inl (nF pp))), (qf, .inr (2, [v0, v1]))] ++ va_pl u.1 (gE cO u3)) := hD
                have hu3 := w_39
                have c1 := isV_set (nn := nn) (pp := pp) (t := (a + 1) + 1) b1 hu3
                refine lv_aload_n hx hb d_Parser_parsePin_95 rfl (lv_at hl 2 rfl) ?_
                refine lv_bipush (v := nI 93) hx hb d_Parser_parsePin_96 (by decide) ?_
                refine we_i (cx := [(qp, .inr (3, [.ref qc, .ref qt, .ref qf, .int (nI (((a + 1) + 1) + 1))])), (qt, .inr (1, [w0, w1, .ref qk, .ref ql, .ref qn, .ref qh, .ref qe])), (qk, .inl (cI, 1001, .inl fk)), (ql, .inl (cI, 1001, .inl (nF pp))), (qf, .inr (2, [v0, v1]))]) (wr := [(qn, .inl (cI, 1001, .inl (nF nn))), (qh, .inl (cL, 1001, .inr (.inl fh))), (qe, .inl (cL, 1001, .inr (.inl fl)))]) (pl := va_pl u.1 (gE cO u3)) (va_runV (As := [.int (nI 93)]) (rest := []) ⟨hx, hb, hml, hown, hts⟩ (c_Parser_want l dC dI cB cI cL cZ cC cO qp qc qt qf qk ql v0 v1 fk (nF pp) (((a + 1) + 1) + 1) (nI 93) _ (by omega)) (cwV 1 hts (good_V k_529 k_531 s_Parser_want k_4 k_532) rfl rfl rfl (by decide +kernel) ⟨Nat.le_of_ble_eq_true rfl, Nat.le_of_ble_eq_true rfl⟩) (wc_preV (k0 := 3) (ci := 3) (r := (R_Parser, F_Parser, 4)) hK hP hD hS hA hF [3, 4, 5, 6, 7] (by decide) rfl rfl rfl) rfl rfl hl.1 rfl (lv_room (Nat.le_of_ble_eq_true rfl)) d_Parser_parsePin_98 ⟨Nat.le_of_ble_eq_true rfl, Nat.le_of_ble_eq_true rfl⟩) hP hD hS hA [3, 4, 5, 6, 7] [0, 1, 2] rfl rfl (by decide) (by decide) (fun r_44 u_42 H locs w_43 hP hD hS => ?_)
                have hP : va_P (dC, dI) cl ([(qn, .inl (cI, 1001, .inl (nF nn))), (qh, .inl (cL, 1001, .inr (.inl fh))), (qe, .inl (cL, 1001, .inr (.inl fl))), (qp, .inr (3, [.ref qc, .ref qt, .ref qf, .int (nI u_42.1)])), (qt, .inr (1, [w0, w1, .ref qk, .ref ql, .ref qn, .ref qh, .ref qe])), (qk, .inl (cI, 1001, .inl fk)), (ql, .inl (cI, 1001, .inl (nF pp))), (qf, .inr (2, [u_42.2.1, u_42.2.2]))] ++ va_pl u.1 (gE cO u3)) H := hP
                have hD : va_D A ([(qn, .inl (cI, 1001, .inl (nF nn))), (qh, .inl (cL, 1001, .inr (.inl fh))), (qe, .inl (cL, 1001, .inr (.inl fl))), (qp, .inr (3, [.ref qc, .ref qt, .ref qf, .int (nI u_42.1)])), (qt, .inr (1, [w0, w1, .ref qk, .ref ql, .ref qn, .ref qh, .ref qe])), (qk, .inl (cI, 1001, .inl fk)), (ql, .inl (cI, 1001, .inl (nF pp))), (qf, .inr (2, [u_42.2.1, u_42.2.2]))] ++ va_pl u.1 (gE cO u3)) := hD
                obtain ⟨r_44e, u_42e⟩ := w_43
                subst r_44e
                by_cases tk_41 : wt_ok fk (((a + 1) + 1) + 1) (nI 93) = true
                · rw [wt_T tk_41] at u_42e
                  subst u_42e
                  have hb_tk_41 : (((a + 1) + 1) + 1) < 1000 := wt_lt tk_41
                  have hP : va_P (dC, dI) cl ([(qn, .inl (cI, 1001, .inl (nF nn))), (qh, .inl (cL, 1001, .inr (.inl fh))), (qe, .inl (cL, 1001, .inr (.inl fl))), (qp, .inr (3, [.ref qc, .ref qt, .ref qf, .int (nI ((((a + 1) + 1) + 1) + 1))])), (qt, .inr (1, [w0, w1, .ref qk, .ref ql, .ref qn, .ref qh, .ref qe])), (qk, .inl (cI, 1001, .inl fk)), (ql, .inl (cI, 1001, .inl (nF pp))), (qf, .inr (2, [v0, v1]))] ++ va_pl u.1 (gE cO u3)) H := hP
                  have hD : va_D A ([(qn, .inl (cI, 1001, .inl (nF nn))), (qh, .inl (cL, 1001, .inr (.inl fh))), (qe, .inl (cL, 1001, .inr (.inl fl))), (qp, .inr (3, [.ref qc, .ref qt, .ref qf, .int (nI ((((a + 1) + 1) + 1) + 1))])), (qt, .inr (1, [w0, w1, .ref qk, .ref ql, .ref qn, .ref qh, .ref qe])), (qk, .inl (cI, 1001, .inl fk)), (ql, .inl (cI, 1001, .inl (nF pp))), (qf, .inr (2, [v0, v1]))] ++ va_pl u.1 (gE cO u3)) := hD
                  have hX : (ppn fk pp (decide (xs.length < 8)) a v0 v1) = (true, ((((a + 1) + 1) + 1) + 1, v0, v1), some ((a + 1) + 1)) := by rw [show decide (xs.length < 8) = true from (by simp; omega)]; unfold ppn; rw [if_pos tk_9, if_pos tk_29, if_pos tk_34, wt_T tk_41, tk_41]
                  refine W.widen (k := 3) (n := 610) (by omega) (by omega) ?_
                  have hk3u : u3.1 = u.2.1 := isV_1 hu3
                  exact wr_z (x := wt_ok fk (((a + 1) + 1) + 1) (nI 93)) hx hb hr hlocks (((((a + 1) + 1) + 1) + 1, v0, v1), u.1, u3) ⟨by rw [hX, tk_41], by rw [hX], ⟨fun b hb9 => hL b (by rw [hk3u] at hb9; exact hb9), fun b h1 h2 h3 h4 => (b3 b h1 h2 h3 h4).tr (c1.2 b (fun e9 => h1 (by rw [e9]; exact hw0))), (by rw [hk3u, b4.1]; split <;> exact ha), (by rw [hk3u]; exact hu.1.k.1)⟩, fun _ => ⟨q_14, nm1, hw0, hn0, b2.keep (c1.2 nm1 (Ne.symm hwn)), by rw [hX]; exact c1.1, LSx_gs hu.1 b1.1 c1.2 hk3u, fun b hb9 => hL b (by rw [hk3u] at hb9; exact hb9), fun b h1 h2 h3 h4 => (b3 b h1 h2 h3 h4).tr (c1.2 b (fun e9 => h1 (by rw [e9]; exact hw0))), b4.tr (c1.2 c0 (Ne.symm hwc))⟩⟩ hK (hP.part [3, 4, 5, 6, 0, 1, 2, 7] rfl) (hD.part [3, 4, 5, 6, 0, 1, 2, 7] (by decide) rfl) hS d_Parser_parsePin_101
                · have tk_41 : wt_ok fk (((a + 1) + 1) + 1) (nI 93) = false := by simpa using tk_41
                  rw [wt_F tk_41] at u_42e
                  subst u_42e
                  have hP : va_P (dC, dI) cl ([(qn, .inl (cI, 1001, .inl (nF nn))), (qh, .inl (cL, 1001, .inr (.inl fh))), (qe, .inl (cL, 1001, .inr (.inl fl))), (qp, .inr (3, [.ref qc, .ref qt, .ref qf, .int (nI (((a + 1) + 1) + 1))])), (qt, .inr (1, [w0, w1, .ref qk, .ref ql, .ref qn, .ref qh, .ref qe])), (qk, .inl (cI, 1001, .inl fk)), (ql, .inl (cI, 1001, .inl (nF pp))), (qf, .inr (2, [.int (if fk (((a + 1) + 1) + 1) = nI 2 then nI 2 else nI 1), .int (nI (pp (((a + 1) + 1) + 1)))]))] ++ va_pl u.1 (gE cO u3)) H := hP
                  have hD : va_D A ([(qn, .inl (cI, 1001, .inl (nF nn))), (qh, .inl (cL, 1001, .inr (.inl fh))), (qe, .inl (cL, 1001, .inr (.inl fl))), (qp, .inr (3, [.ref qc, .ref qt, .ref qf, .int (nI (((a + 1) + 1) + 1))])), (qt, .inr (1, [w0, w1, .ref qk, .ref ql, .ref qn, .ref qh, .ref qe])), (qk, .inl (cI, 1001, .inl fk)), (ql, .inl (cI, 1001, .inl (nF pp))), (qf, .inr (2, [.int (if fk (((a + 1) + 1) + 1) = nI 2 then nI 2 else nI 1), .int (nI (pp (((a + 1) + 1) + 1)))]))] ++ va_pl u.1 (gE cO u3)) := hD
                  have hX : (ppn fk pp (decide (xs.length < 8)) a v0 v1) = (false, (((a + 1) + 1) + 1, .int (if fk (((a + 1) + 1) + 1) = nI 2 then nI 2 else nI 1), .int (nI (pp (((a + 1) + 1) + 1)))), some ((a + 1) + 1)) := by rw [show decide (xs.length < 8) = true from (by simp; omega)]; unfold ppn; rw [if_pos tk_9, if_pos tk_29, if_pos tk_34, wt_F tk_41, tk_41]
                  refine W.widen (k := 3) (n := 610) (by omega) (by omega) ?_
                  have hk3u : u3.1 = u.2.1 := isV_1 hu3
                  exact wr_z (x := wt_ok fk (((a + 1) + 1) + 1) (nI 93)) hx hb hr hlocks ((((a + 1) + 1) + 1, .int (if fk (((a + 1) + 1) + 1) = nI 2 then nI 2 else nI 1), .int (nI (pp (((a + 1) + 1) + 1)))), u.1, u3) ⟨by rw [hX, tk_41], by rw [hX], ⟨fun b hb9 => hL b (by rw [hk3u] at hb9; exact hb9), fun b h1 h2 h3 h4 => (b3 b h1 h2 h3 h4).tr (c1.2 b (fun e9 => h1 (by rw [e9]; exact hw0))), (by rw [hk3u, b4.1]; split <;> exact ha), (by rw [hk3u]; exact hu.1.k.1)⟩, fun q9 => by rw [hX] at q9; exact Bool.noConfusion q9⟩ hK (hP.part [3, 4, 5, 6, 0, 1, 2, 7] rfl) (hD.part [3, 4, 5, 6, 0, 1, 2, 7] (by decide) rfl) hS d_Parser_parsePin_101
              · exact absurd (tk_34.symm.trans c_38) (by decide)
            · have tk_34 : wt_ok fk ((a + 1) + 1) (nI 4) = false := by simpa using tk_34
              rw [wt_F tk_34] at u_35e
              subst u_35e
              have hP : va_P (dC, dI) cl ([(qn, .inl (cI, 1001, .inl (nF nn))), (qh, .inl (cL, 1001, .inr (.inl fh))), (qe, .inl (cL, 1001, .inr (.inl fl))), (qp, .inr (3, [.ref qc, .ref qt, .ref qf, .int (nI ((a + 1) + 1))])), (qt, .inr (1, [w0, w1, .ref qk, .ref ql, .ref qn, .ref qh, .ref qe])), (qk, .inl (cI, 1001, .inl fk)), (ql, .inl (cI, 1001, .inl (nF pp))), (qf, .inr (2, [.int (if fk ((a + 1) + 1) = nI 2 then nI 2 else nI 1), .int (nI (pp ((a + 1) + 1)))]))] ++ va_pl u.1 (gE cO u.2)) H := hP
              have hD : va_D A ([(qn, .inl (cI, 1001, .inl (nF nn))), (qh, .inl (cL, 1001, .inr (.inl fh))), (qe, .inl (cL, 1001, .inr (.inl fl))), (qp, .inr (3, [.ref qc, .ref qt, .ref qf, .int (nI ((a + 1) + 1))])), (qt, .inr (1, [w0, w1, .ref qk, .ref ql, .ref qn, .ref qh, .ref qe])), (qk, .inl (cI, 1001, .inl fk)), (ql, .inl (cI, 1001, .inl (nF pp))), (qf, .inr (2, [.int (if fk ((a + 1) + 1) = nI 2 then nI 2 else nI 1), .int (nI (pp ((a + 1) + 1)))]))] ++ va_pl u.1 (gE cO u.2)) := hD
              refine nv_bif_ne (tgt := 71) hx hb d_Parser_parsePin_66 (by decide) (fun c_45 => ?_) (fun c_45 => ?_)
              · exact absurd (tk_34.symm.trans c_45) (by decide)
              · refine lv_iconst (v := nI 0) hx hb d_Parser_parsePin_69 (by decide) ?_
                have hX : (ppn fk pp (decide (xs.length < 8)) a v0 v1) = (false, ((a + 1) + 1, .int (if fk ((a + 1) + 1) = nI 2 then nI 2 else nI 1), .int (nI (pp ((a + 1) + 1)))), none) := by rw [show decide (xs.length < 8) = true from (by simp; omega)]; unfold ppn; rw [if_pos tk_9, if_pos tk_29, if_neg (by rw [tk_34]; decide), wt_F tk_34]
                refine W.widen (k := 3) (n := 610) (by omega) (by omega) ?_
                exact wr_z (x := false) hx hb hr hlocks (((a + 1) + 1, .int (if fk ((a + 1) + 1) = nI 2 then nI 2 else nI 1), .int (nI (pp ((a + 1) + 1)))), u.1, u.2) ⟨by rw [hX], by rw [hX], ⟨hu.2.1, b3, (by rw [b4.1]; split <;> exact ha), hu.1.k.1⟩, fun q9 => by rw [hX] at q9; exact Bool.noConfusion q9⟩ hK (hP.part [3, 4, 5, 6, 0, 1, 2, 7] rfl) (hD.part [3, 4, 5, 6, 0, 1, 2, 7] (by decide) rfl) hS d_Parser_parsePin_70
          · exact absurd (tk_29.symm.trans c_33) (by decide)
        · have tk_29 : wt_ok fk (a + 1) (nI 91) = false := by simpa using tk_29
          rw [if_neg (by rw [tk_29]; decide)] at u_30e
          replace u_30e := u_30e.symm
          subst u_30e
          refine nv_bif_ne (tgt := 55) hx hb d_Parser_parsePin_50 (by decide) (fun c_46 => ?_) (fun c_46 => ?_)
          · exact absurd (tk_29.symm.trans c_46) (by decide)
          · refine lv_iconst (v := nI 1) hx hb d_Parser_parsePin_53 (by decide) ?_
            have hX : (ppn fk pp (decide (xs.length < 8)) a v0 v1) = (true, (a + 1, v0, v1), none) := by rw [show decide (xs.length < 8) = true from (by simp; omega)]; unfold ppn; rw [if_pos tk_9, if_neg (by rw [tk_29]; decide)]
            refine W.widen (k := 3) (n := 610) (by omega) (by omega) ?_
            exact wr_z (x := true) hx hb hr hlocks ((a + 1, v0, v1), u.1, u.2) ⟨by rw [hX], by rw [hX], ⟨hu.2.1, b3, (by rw [b4.1]; split <;> exact ha), hu.1.k.1⟩, fun _ => ⟨q_14, nm1, hw0, hn0, b2, by rw [hX]; exact b1, hu.1, hu.2.1, b3, b4⟩⟩ hK (hP.part [5, 6, 7, 2, 0, 3, 4, 1] rfl) (hD.part [5, 6, 7, 2, 0, 3, 4, 1] (by decide) rfl) hS d_Parser_parsePin_54
      · exact absurd (tk_9.symm.trans c_13) (by decide)
    · have tk_9 : wn_ok fk a true = false := by simpa using tk_9
      rw [wn_F tk_9] at u_10e
      subst u_10e
      have hP : va_P (dC, dI) cl ([(qn, .inl (cI, 1001, .inl (nF nn))), (qh, .inl (cL, 1001, .inr (.inl fh))), (qe, .inl (cL, 1001, .inr (.inl fl))), (qp, .inr (3, [.ref qc, .ref qt, .ref qf, .int (nI a)])), (qt, .inr (1, [w0, w1, .ref qk, .ref ql, .ref qn, .ref qh, .ref qe])), (qk, .inl (cI, 1001, .inl fk)), (ql, .inl (cI, 1001, .inl (nF pp))), (qf, .inr (2, [.int (if fk a = nI 3 ∨ fk a = nI 2 then nI 2 else nI 1), .int (nI (pp a))]))] ++ va_pl L (gE cO G)) H := hP
      have hD : va_D A ([(qn, .inl (cI, 1001, .inl (nF nn))), (qh, .inl (cL, 1001, .inr (.inl fh))), (qe, .inl (cL, 1001, .inr (.inl fl))), (qp, .inr (3, [.ref qc, .ref qt, .ref qf, .int (nI a)])), (qt, .inr (1, [w0, w1, .ref qk, .ref ql, .ref qn, .ref qh, .ref qe])), (qk, .inl (cI, 1001, .inl fk)), (ql, .inl (cI, 1001, .inl (nF pp))), (qf, .inr (2, [.int (if fk a = nI 3 ∨ fk a = nI 2 then nI 2 else nI 1), .int (nI (pp a))]))] ++ va_pl L (gE cO G)) := hD
      refine nv_bif_ne (tgt := 26) hx hb d_Parser_parsePin_21 (by decide) (fun c_47 => ?_) (fun c_47 => ?_)
      · exact absurd (tk_9.symm.trans c_47) (by decide)
      · refine lv_iconst (v := nI 0) hx hb d_Parser_parsePin_24 (by decide) ?_
        have hX : (ppn fk pp (decide (xs.length < 8)) a v0 v1) = (false, (a, .int (if fk a = nI 3 ∨ fk a = nI 2 then nI 2 else nI 1), .int (nI (pp a))), none) := by rw [show decide (xs.length < 8) = true from (by simp; omega)]; unfold ppn; rw [if_neg (by rw [tk_9]; decide), wn_F tk_9]
        refine W.widen (k := 3) (n := 610) (by omega) (by omega) ?_
        exact wr_z (x := false) hx hb hr hlocks ((a, .int (if fk a = nI 3 ∨ fk a = nI 2 then nI 2 else nI 1), .int (nI (pp a))), L, G) ⟨by rw [hX], by rw [hX], ⟨hL, fun b _ _ _ _ => gs.rf _ _, ha, h.k.1⟩, fun q9 => by rw [hX] at q9; exact Bool.noConfusion q9⟩ hK (hP.part [3, 4, 5, 6, 0, 1, 2, 7] rfl) (hD.part [3, 4, 5, 6, 0, 1, 2, 7] (by decide) rfl) hS d_Parser_parsePin_25
