/-! The relation between calls; read -/
theorem sbl_kb {ft gp : Nat → Int32} {P S : PS} (h : sbl P S) (e : P.1 15 = S.1 15) (k : kb_p ft gp S) : kb_p ft gp P := by
  have e1 : ∀ i l, q_pin ft gp P i (P.2.2.1 28 l) = q_pin ft gp S i (S.2.2.1 28 l) := fun i l => by unfold q_pin q_own q_word; rw [h.1]
  have e2 : ∀ i x pb l, q_lf P i x pb l = q_lf S i x pb l := fun i x pb l => by unfold q_lf q_off; rw [h.1, h.2.1]
  have e3 : ∀ c bs l, q_rt ft P c bs l = q_rt ft S c bs l := fun c bs l => by unfold q_rt q_own q_inn q_ip; rw [h.1, h.2.1]
  have e4 : ∀ i x l, q_mb P i x l = q_mb S i x l := fun i x l => by unfold q_mb; rw [h.1, h.2.1]
  have e5 : ∀ c t, q_own ft P c t = q_own ft S c t := fun c t => by unfold q_own; rw [h.1]
  have e6 : ∀ c t, q_inn ft P c t = q_inn ft S c t := fun c t => by unfold q_inn; rw [h.1]
  have e7 : ∀ i, pbn P i = pbn S i := fun i => by unfold pbn; rw [sbl_ow h]
  intro c p hc h1 h2
  rw [e] at hc
  rw [h.1] at h1 h2
  obtain ⟨i, a1, a2, a3⟩ := k c p hc h1 h2
  refine ⟨i, by rw [h.2.1]; exact a1, by rw [e]; exact a2, fun l l1 l2 => ?_⟩
  rw [h.1] at l1 l2
  obtain ⟨x, b1, b2, b3, b4, b5, b6, b7⟩ := a3 l l1 l2
  exact ⟨x, by rw [e1]; exact b1, by rw [h.1, h.2.1]; exact b2, by rw [h.1, e5, e6]; exact b3, by rw [e2, e4, e7]; exact b4, by rw [h.1, e3, e4, sbl_ow h]; exact b5, by rw [h.1, h.2.2]; exact b6, by rw [e4]; exact b7⟩
theorem sbl_bf {P S : PS} {gn bn : Nat → Nat} (h : sbl P S) (e : P.1 15 = S.1 15) (k : bfix S gn bn) : bfix P gn bn := by
  refine ⟨fun c hc a b => ?_, fun c hc => ?_⟩
  · rw [e] at hc
    have q := k.1 c hc a b
    unfold pgs pbs at q ⊢
    rw [h.1, h.2.1, sbl_ow h]; exact q
  · rw [e] at hc
    rw [sbl_ow h]; exact k.2 c hc
theorem p2_kp {ft gw gp : Nat → Int32} : ∀ k c P, kp P (p2 ft gw gp k c P)
  | 0, _, P => kp_rfl P
  | k + 1, c, P => kp_tr (kp_tr (kp_fi ft gw gp c P) (kp_cla ft gp c _)) (p2_kp k (c + 1) _)
theorem tke_c {ft tv : Nat → Int32} {nv : Nat → Nat} {T : Nat} {A A' : Nat → Nat → Nat} {fk : Nat → Int32} {pp nn : Nat → Nat} {fh fl : Nat → Int64} (h : tke ft tv nv T A fk pp nn fh fl) (e7 : A' 7 = A 7) (e8 : A' 8 = A 8) (e9 : A' 9 = A 9) : tke ft tv nv T A' fk pp nn fh fl := by
  unfold tke at h ⊢; rw [e7, e8, e9]; exact h
theorem rdz {ft tv gw gp : Nat → Int32} {nv : Nat → Nat} {E : PS} (hk0 : chk ft tv gw gp nv (zs E 5 0)) (hi0 : isb E) : chk ft tv gw gp nv (rdR (rdC ft gw gp nv E)) ∧ isb (rdR (rdC ft gw gp nv E)) ∧ (∀ k, k ≠ 5 → k ≠ 6 → (rdR (rdC ft gw gp nv E)).1 k = E.1 k) ∧ ∀ k, k ≠ 48 → k ≠ 49 → (rdR (rdC ft gw gp nv E)).2.2.1 k = E.2.2.1 k := by
  have e2 : (cp_all ft gw nv (E.1 15) 0 (zs E 5 0)).2 = E.2 := cpall_2 _ _ _
  have hk3 := chk_all (f := ft) (g := gw) (v := nv) (E.1 15) 0 _ hk0
  have hi3 : isb (cp_all ft gw nv (E.1 15) 0 (zs E 5 0)) := fun j z hz => hi0 j z (by rw [e2] at hz; exact hz)
  obtain ⟨hk5, hi5⟩ := chk_p2 (E.1 15) 0 _ hk3 hi3
  have kp5 := p2_kp (ft := ft) (gw := gw) (gp := gp) (E.1 15) 0 (cp_all ft gw nv (E.1 15) 0 (zs E 5 0))
  have c1 : ∀ k, k ≠ 5 → k ≠ 6 → (rdC ft gw gp nv E).1 k = E.1 k := fun k a b => by
    rw [show (rdC ft gw gp nv E).1 k = _ from kp5.1 k a b, cpall_k a b]; exact if_neg a
  have c2 : ∀ k, k ≠ 48 → k ≠ 49 → (rdC ft gw gp nv E).2.2.1 k = E.2.2.1 k := fun k a b => by
    rw [show (rdC ft gw gp nv E).2.2.1 k = _ from kp5.2.1 k a b, e2]
  have hk5 : chk ft tv gw gp nv (rdC ft gw gp nv E) := hk5
  have hi5 : isb (rdC ft gw gp nv E) := hi5
  unfold rdR
  split
  · have kR := rk_all (rdC ft gw gp nv E)
    obtain ⟨r5, r6⟩ := rga_56 hk5.ng5 hk5.ng6 hk5.p8
    refine ⟨chk_rk hk5 kR r5 r6, fun j z hz => ?_, fun k a b => ?_, fun k a b => ?_⟩
    · rw [kR.2.2.2.1] at hz; exact hi5 j z hz
    · rw [kR.1 k a b]; exact c1 k a b
    · rw [kR.2.2.1]; exact c2 k a b
  · exact ⟨hk5, hi5, c1, c2⟩
theorem kck_fs {ft tv gw gp : Nat → Int32} {nv : Nat → Nat} {T : Nat} {fk : Nat → Int32} {pp nn : Nat → Nat} {fh fl : Nat → Int64} {P : PS} (h : KC ft tv gw gp nv T fk pp nn fh fl P) (h44 : s44 P) {f : Nat → Nat} (hk : kck ft gw gp nv P f = none) : fsc (rms (k_all ft gw gp nv (P.1 15) 0 P).2 f) ((k_all ft gw gp nv (P.1 15) 0 P).2.1 15) 0 = none := by
  obtain ⟨ks, ks4⟩ := kall_s h (P.1 15) 0 P (kp_rfl P) (Nat.zero_add _) h44
  have e15 := ks.1 15 (by decide) (by decide)
  have k23 := ks.2.1 23 (by decide) (by decide)
  by_cases kn : (k_all ft gw gp nv (P.1 15) 0 P).1 = none
  · have ek : kck ft gw gp nv P f = (fsc (clb (P.1 15) (P.1 15) 0 (dcs ((k_all ft gw gp nv (P.1 15) 0 P).2.2.2.2.1 44) (P.2.2.1 23) (P.1 15) 0 f)) (P.1 15) 0).map (fun c => (6, P.2.2.1 16 c)) := by unfold kck; rw [if_pos kn]
    rw [ek] at hk
    unfold rms
    rw [e15, k23]
    rcases e : fsc (clb (P.1 15) (P.1 15) 0 (dcs ((k_all ft gw gp nv (P.1 15) 0 P).2.2.2.2.1 44) (P.2.2.1 23) (P.1 15) 0 f)) (P.1 15) 0 with _ | z
    · rfl
    · rw [e] at hk; cases hk
  · have ek : kck ft gw gp nv P f = (k_all ft gw gp nv (P.1 15) 0 P).1 := by unfold kck; rw [if_neg kn]
    exact absurd (ek.symm.trans hk) kn
theorem P8_m89 {P Q : PS} (h : P8 P) : P8 (m89 Q P) := h
/-- what is known of a text before it is parsed -/
theorem rd_ctx {fb ft cw gw gp tv : Nat → Int32} {n : Nat} {P : PS} {C : R5} (hn : n ≤ 2000) (h : rb fb ft n) (hc : rw_ cw 29 0 kwl) (hgw : rw_ gw 9 0 gnl) (hgp : rw_ gp 11 0 gpl) (hK : KI C) (hM : MT P.2.2.1 tv) (hP : ∀ u, C.2.1 u = nI (P.2.2.1 8 u)) (hI : MI P) {TW : Nat → Int32} (eTW : TW = (rdT ft cw tv n P).2.2.2.2) {P0 : PS} (eP0 : P0 = msk (rd1 P n (rdT ft cw tv n P))) :
    ∃ nv T fk pp nu fh fl, tx_scan fb n 1001 0 0 C = (fk, nF pp, nF nu, fh, fl) ∧ KI (fk, nF pp, nF nu, fh, fl) ∧ (∀ t, nu t ≤ 99) ∧ tke ft TW nv T P0.2.2.1 fk pp nu fh fl ∧ wl TW nv T P0 ∧ (∀ t, pp t = P0.2.2.1 8 t) ∧ T ≤ n ∧ tinc T (P0.2.2.1 8) ∧ MT P0.2.2.1 TW ∧ ∀ X, X = tt_loop ft TW nv 1002 (tt0 P0) → X.1 13 = 0 → KC ft TW gw gp nv T fk pp nu fh fl (m89 P (tt_end X)) ∧ P8 (m89 P (tt_end X)) := by
  subst eTW eP0
  obtain ⟨a1, a2, a3, a4, a5, T, a6, a7, a8⟩ := scan_ctx h hn hc (by decide) hK hM hP (M := rdT ft cw tv n P) rfl (R := tx_scan fb n 1001 0 0 C) rfl (A' := (msk (rd1 P n (rdT ft cw tv n P))).2.2.1) rfl rfl rfl
  have hw : wl (rdT ft cw tv n P).2.2.2.2 (fun u => un ((rdT ft cw tv n P).2.2.2.2 u)) T (msk (rd1 P n (rdT ft cw tv n P))) := by
    refine ⟨⟨fun k j => ?_, hI.1.2⟩, ⟨hI.2.2.2.2.2.1, Nat.zero_le _⟩, a7⟩
    have mt := a2 j
    by_cases h49 : k = 49
    · subst h49; show 0 < bk 49; decide
    · by_cases h48 : k = 48
      · subst h48; show 0 < bk 48; decide
      · by_cases h9 : k = 9
        · subst h9; show _ < 2001; have := mt.2.2; omega
        · by_cases h8 : k = 8
          · subst h8; show _ < 2001; have := mt.2.2; omega
          · by_cases h7 : k = 7
            · subst h7; exact mt.1
            · have e : (msk (rd1 P n (rdT ft cw tv n P))).2.2.1 k = P.2.2.1 k := by
                show va_up (va_up (va_up (va_up (va_up P.2.2.1 7 _) 8 _) 9 _) 48 _) 49 _ k = _
                rw [va_up_ne _ _ h49, va_up_ne _ _ h48, va_up_ne _ _ h9, va_up_ne _ _ h8, va_up_ne _ _ h7]
              rw [e]; exact hI.1.1 k j h48 h49
  have ti : tinc T ((msk (rd1 P n (rdT ft cw tv n P))).2.2.1 8) := scan_tinc h hn hc (by decide) (A := P.2.2.1) (M := rdT ft cw tv n P) rfl a8
  have le : (rdT ft cw tv n P).2.2.1 T ≤ n := scan_le h hn hc (by decide) 1001 0 (0, P.2.2.1 7, P.2.2.1 8, P.2.2.1 9, tv) rfl (by decide) (Nat.zero_le _) (fun u z => absurd z (Nat.not_lt_zero _)) T (by rw [show (m_tkz ft n cw 29 1001 (m_skip ft n n 0) (0, P.2.2.1 7, P.2.2.1 8, P.2.2.1 9, tv)).1 = T + 1 from a8]; omega)
  have tl : T ≤ (rdT ft cw tv n P).2.2.1 T := tinc_ge ti T (Nat.le_refl _)
  generalize rdT ft cw tv n P = Mx at *
  refine ⟨_, T, _, _, _, _, _, a5, by rw [← a5]; exact a1, a4, a6, hw, fun t => ?_, by omega, ti, a2, fun X eX z => ?_⟩
  · show un ((tx_scan fb n 1001 0 0 C).2.1 t) = _
    rw [a3 t, un_n (by have := (a2 t).2.2; omega)]
  · obtain ⟨nv, env⟩ : ∃ nv, nv = fun u => un (Mx.2.2.2.2 u) := ⟨_, rfl⟩
    obtain ⟨P0, eP0⟩ : ∃ z, z = msk (rd1 P n Mx) := ⟨_, rfl⟩
    rw [← env, ← eP0] at hw a6 eX
    rw [← env]
    have eS : tt_end X = sp_texts ft Mx.2.2.2.2 nv P0 := by rw [eX]; rfl
    have z : (tt_end X).1 13 = 0 := z
    rw [eS] at z ⊢
    have t7 : (sp_texts ft Mx.2.2.2.2 nv P0).2.2.1 7 = P0.2.2.1 7 := r7_texts (by decide)
    have t8 : (sp_texts ft Mx.2.2.2.2 nv P0).2.2.1 8 = P0.2.2.1 8 := r7_texts (by decide)
    have t9 : (sp_texts ft Mx.2.2.2.2 nv P0).2.2.1 9 = P0.2.2.1 9 := r7_texts (by decide)
    exact ⟨KC_m89 (tke_c a6 t7 t8 t9) (texts_wl hw).1 (texts_PT hw z) hI hgw hgp, P8_m89 (texts_P8 hw z)⟩
/-- what the reference keeps at all times -/
def RLB (P : PS) (B : MB) (nn : Nat → Nat) : Prop := cle B.2.2.2.2.2.1 ∧ (∀ j, B.2.2.2.2.1 j ≤ 1) ∧ (∀ i, B.1.2.1 i < 8002) ∧ (∀ i, B.1.2.2.1 i ≤ 300) ∧ (∀ j, nn j ≤ 1) ∧ (∀ i z, B.2.2.1 i = some z → z ≤ 1000) ∧ (B.2.2.2.2.2.2.1 ≤ B.1.1.2.2 ∧ B.1.1.2.2 ≤ 300) ∧ (∀ i, i < B.2.2.2.2.2.2.1 → B.2.2.2.1 i < 300 ∧ B.1.2.2.2.2.2.1 (B.2.2.2.1 i) + 2 < 8000 ∧ B.2.1.1 (B.2.2.2.1 i) < 8002 ∧ B.2.1.2 (B.2.2.2.1 i) < 8002) ∧ B.2.2.2.2.2.2.2.1 < 8 ∧ P.1 15 ≤ 8
/-- both boards, where there is one -/
def BDX (t0 : Nat) (gp : Nat → Int32) (U : UB) (G : PG) (P : PS) (B : MB) : Prop := ∃ (ft0 tv0 : Nat → Int32) (S0 : PS) (bC gC bR gR : List Nat → Nat) (Z : LZ) (T : AS) (O : OR) (ct ip : Nat) (xs : List Nat) (c0 tc on : Nat),
  P.1 15 = c0 + 1 ∧ c0 < 8 ∧ BST ft0 tv0 gp S0 c0 bC gC bR gR Z U.2.1.2.2.1 U.2.1.2.2.2.1 B.1 B.2.1 T O ∧
  (O.1 = B.2.2.1 ∧ O.2.1 = B.2.2.2.1 ∧ O.2.2.1 = B.2.2.2.2.2.2.1) ∧ (B.2.2.2.2.2.2.2.1 = c0 ∧ B.2.2.2.2.2.2.2.2 = tc) ∧
  (Z.2.1 = U.2.1.1 ∧ Z.2.2.1 = U.2.1.2.1 ∧ T.2.2.1 = U.2.2.1) ∧
  U.1 = (.ref ct, .int (nI (c0 + 1)), .int (nI Z.1), .int (nI Z.2.2.2.2.2.2.2.2), .int (nI Z.2.2.2.2.2.2.2.1), .int (nI (2 + inw S0 (c0 + 2))), .int (nI T.2.2.2.2), .int (nI T.2.2.2.1), .int (nI tc), .int (nI on)) ∧
  (PNS t0 G ct ip xs (P.2.2.1 17) (P.2.2.1 21) (P.2.2.2.2 19) c0 ∧ inw S0 (c0 + 2) = m_psum (P.2.2.1 21) ip (P.2.2.1 17 c0) 0 ∧ m_psum (P.2.2.1 21) xs.length (P.2.2.1 17 c0) 0 ≤ ow S0 c0) ∧
  VA S0 c0 (2 + inw S0 (c0 + 2)) gC bR B.1 (fun _ => True) U.2.1.2.2.2.2.1 B.2.2.2.2.1 ∧ on = cns (fun p => U.2.1.2.2.2.2.1 (2 + inw S0 (c0 + 2) + T.2.2.1 p)) T.2.2.2.1
def REL (t0 qc na df : Nat) (gp : Nat → Int32) (n : Nat) (fb : Nat → Int32) (C : R5) (y : Int32) (f : Nat → Nat) (U : UB) (L : List Nat) (G : PG) (ft tv : Nat → Int32) (P : PS) (B : MB) (nn : Nat → Nat) (pl : Option Nat) (bd : Bool) : Prop :=
  (n ≤ 2000 ∧ rb fb ft n ∧ y = oI pl) ∧ (KI C ∧ MT P.2.2.1 tv ∧ ∀ u, C.2.1 u = nI (P.2.2.1 8 u)) ∧ (MI P ∧ P.1 14 < 2 ^ 31) ∧ (RB t0 qc na df G ∧ gL L G ∧ sml f ∧ BIZ U.2.1) ∧ RLB P B nn ∧ (bd = true → BDX t0 gp U G P B) ∧ (bd = false → U.1.1 = .null)
theorem gl_le {Y : LY} {Gr : (Nat → Nat) × (Nat → Nat)} {O : OR} {gl : Nat → Option Nat} {go : Nat → Nat} (o1 : OI Y.2.2.2.2.2.2 Y.2.2.1 Gr.1 Gr.2 Y.1.2.2 O) (tk : bok Y Gr O) (hO : O = rbO Y Gr gl go) (hgl : ∀ i z, gl i = some z → z ≤ 1000) : ∀ i z, O.1 i = some z → z ≤ 1000 := fun i z e => by
  obtain ⟨t1, t2, t3, t4, t5, t6⟩ := tk
  by_cases q : i < Y.1.2.2
  · obtain ⟨-, -, p, p1, p2⟩ := o1.1 i z q e
    have := o1.lvl (fun x hx => (t4 x hx).2) (p + 1) p (Nat.lt_succ_self _) p1 z (by rw [p2]; exact e)
    omega
  · have w : O.1 i = gl i := by
      rw [hO]; unfold rbO
      rw [orw_o _ _ _ (show Y.1.2.2 ≤ i by omega)]
      show (or_0 Y.2.2.2.2.2.2 Y.1.2.2 0 (gl, 0)).1 i = gl i
      rw [or0_x, if_neg (show ¬ (0 ≤ i ∧ i < 0 + Y.1.2.2) by omega)]
    rw [w] at e; exact hgl i z e
section RDP
variable {t0 qc na df : Nat} {fb ft cw gw gp tv TW : Nat → Int32} {n : Nat} {C : R5} {y : Int32} {f : Nat → Nat} {U : UB} {L : List Nat} {G : PG} {P P0 X E : PS} {B : MB} {nn : Nat → Nat} {pl : Option Nat} {bd : Bool} {nv : Nat → Nat} {T : Nat} {fk : Nat → Int32} {pp nu : Nat → Nat} {fh fl : Nat → Int64} {u : (Nat × Int32) × Nat × UB × (Nat → Nat) × List Nat × PG}
/-- what the class's read leaves -/
def RDQ (t0 qc na df : Nat) (ft tv gw gp : Nat → Int32) (nv pp nn : Nat → Nat) (fh fl : Nat → Int64) (X E : PS) (f : Nat → Nat) (U : UB) (n : Nat) (u : (Nat × Int32) × Nat × UB × (Nat → Nat) × List Nat × PG) : Prop :=
  gL u.2.2.2.2.1 u.2.2.2.2.2 ∧ RB t0 qc na df u.2.2.2.2.2 ∧ sml u.2.2.2.1 ∧ BIZ u.2.2.1.2.1 ∧ (¬ X.1 13 = 0 → u.1 = (X.1 13, nI (X.1 14)) ∧ u.2.2.1.1.1 = .null) ∧ (X.1 13 = 0 → ∀ n9 t9, kck ft gw gp nv E f = some (n9, t9) → u.1 = (n9, nI (pp t9)) ∧ u.2.2.1.1.1 = .null) ∧
  (X.1 13 = 0 → kck ft gw gp nv E f = none → ∃ ad tg, CKB t0 qc na df ft tv gp fh fl pp nn ad tg E u.2.2.2.2.1 u.2.2.2.2.2 (k_all ft gw gp nv (E.1 15) 0 E).2 (E.1 15) ∧ (bok_ ft tv gp (k_all ft gw gp nv (E.1 15) 0 E).2 (E.1 15 - 1) U.2.1 U.2.2.2 U.2.2.1 = false → u.1 = (6, nI n) ∧ u.2.2.1.1.1 = .null) ∧
    (bok_ ft tv gp (k_all ft gw gp nv (E.1 15) 0 E).2 (E.1 15 - 1) U.2.1 U.2.2.2 U.2.2.1 = true → u.1 = (0, -1) ∧ u.2.2.1 = ((.ref (ad 0 (E.1 15 - 1)), .int (nI (E.1 15)), .int (nI (bzl ft tv gp (k_all ft gw gp nv (E.1 15) 0 E).2 (E.1 15 - 1) U.2.1).2.1), .int (nI (bzl ft tv gp (k_all ft gw gp nv (E.1 15) 0 E).2 (E.1 15 - 1) U.2.1).2.2.2.2.2.2.2.2.2), .int (nI (bzl ft tv gp (k_all ft gw gp nv (E.1 15) 0 E).2 (E.1 15 - 1) U.2.1).2.2.2.2.2.2.2.2.1), .int (nI (2 + inw (k_all ft gw gp nv (E.1 15) 0 E).2 (E.1 15 - 1 + 2))), .int (nI (bA ft tv gp (k_all ft gw gp nv (E.1 15) 0 E).2 (E.1 15 - 1) U.2.1 U.2.2.2 U.2.2.1).2.2.2.2.2), .int (nI (bA ft tv gp (k_all ft gw gp nv (E.1 15) 0 E).2 (E.1 15 - 1) U.2.1 U.2.2.2 U.2.2.1).2.2.2.2.1), .int (nI 0), .int (nI (bV ft tv gp (k_all ft gw gp nv (E.1 15) 0 E).2 (E.1 15 - 1) U.2.1 U.2.2.2 U.2.2.1).2)), ((bzl ft tv gp (k_all ft gw gp nv (E.1 15) 0 E).2 (E.1 15 - 1) U.2.1).2.2.1, (bzl ft tv gp (k_all ft gw gp nv (E.1 15) 0 E).2 (E.1 15 - 1) U.2.1).2.2.2.1, (bFs ft tv gp (k_all ft gw gp nv (E.1 15) 0 E).2 (E.1 15 - 1) U.2.1).1, (bFs ft tv gp (k_all ft gw gp nv (E.1 15) 0 E).2 (E.1 15 - 1) U.2.1).2, (bV ft tv gp (k_all ft gw gp nv (E.1 15) 0 E).2 (E.1 15 - 1) U.2.1 U.2.2.2 U.2.2.1).1, (bA ft tv gp (k_all ft gw gp nv (E.1 15) 0 E).2 (E.1 15 - 1) U.2.1 U.2.2.2 U.2.2.1).2.2.1), (bA ft tv gp (k_all ft gw gp nv (E.1 15) 0 E).2 (E.1 15 - 1) U.2.1 U.2.2.2 U.2.2.1).2.2.2.1, (bA ft tv gp (k_all ft gw gp nv (E.1 15) 0 E).2 (E.1 15 - 1) U.2.1 U.2.2.2 U.2.2.1).2.1)))
/-- the hypotheses of the reference's read, and what both reads leave -/
theorem rd_post (R0 : REL t0 qc na df gp n fb C y f U L G ft tv P B nn pl bd) (g8 : gw 8 = nI 32) (g10 : gp 10 = nI 32) (eTW : TW = (rdT ft cw tv n P).2.2.2.2) (eP0 : P0 = msk (rd1 P n (rdT ft cw tv n P))) (eX : X = tt_loop ft TW nv 1002 (tt0 P0)) (eE : E = m89 P (tt_end X))
    (hki : KI (fk, nF pp, nF nu, fh, fl)) (hwl : wl TW nv T P0) (hpp : ∀ t, pp t = P0.2.2.1 8 t) (htc : tinc T (P0.2.2.1 8)) (hmt : MT P0.2.2.1 TW) (hkc : X.1 13 = 0 → KC ft TW gw gp nv T fk pp nu fh fl E ∧ P8 E) (hu : RDQ t0 qc na df ft TW gw gp nv pp nu fh fl X E f U n u) :
    E = rdP ft cw tv nv n P ∧ (E.1 13 = 0 → chk ft TW gw gp nv (zs E 5 0) ∧ isb E) ∧ (E.1 13 = 0 → 1 ≤ E.1 15) ∧ E.1 14 < 2 ^ 31 ∧
    (E.1 13 = 0 → (rdR (rdC ft gw gp nv E)).1 5 = 0 → (rdN (rdR (rdC ft gw gp nv E)) B.2.2.2.2.2.1).1 ((rdR (rdC ft gw gp nv E)).1 15 - 1) ≤ 300 ∧ (rdN (rdR (rdC ft gw gp nv E)) B.2.2.2.2.2.1).2 ((rdR (rdC ft gw gp nv E)).1 15 - 1) ≤ 8000 → bfix (rdR (rdC ft gw gp nv E)) (rdN (rdR (rdC ft gw gp nv E)) B.2.2.2.2.2.1).1 (rdN (rdR (rdC ft gw gp nv E)) B.2.2.2.2.2.1).2 ∧ kb_p ft gp (rdR (rdC ft gw gp nv E)) ∧ bsok (rbS ft TW gp (rdR (rdC ft gw gp nv E)) B.1) 8001 ∧ bok (rbS ft TW gp (rdR (rdC ft gw gp nv E)) B.1) (rbG 8001 (rbS ft TW gp (rdR (rdC ft gw gp nv E)) B.1) B.2.1) (rbO (rbS ft TW gp (rdR (rdC ft gw gp nv E)) B.1) (rbG 8001 (rbS ft TW gp (rdR (rdC ft gw gp nv E)) B.1) B.2.1) B.2.2.1 B.2.2.2.1)) ∧
    ∀ W, W = rdA ft cw gw gp tv nv 8001 n P B → u.1.1 = W.1.1 ∧ REL t0 qc na df gp 0 fb (fk, nF pp, nF nu, fh, fl) u.1.2 u.2.2.2.1 u.2.2.1 u.2.2.2.2.1 u.2.2.2.2.2 ft TW W.2.1 W.2.2 nn W.1.2.1 W.1.2.2 := by
  obtain ⟨⟨hn, hrb, hy⟩, -, ⟨hI, h14⟩, ⟨-, -, hf, hz⟩, hB, -, -⟩ := R0
  have hB0 := hB
  obtain ⟨hB1, hB2, hB3, hB4, hB5, hB6, hB7, hB8, hB9, hB10⟩ := hB
  obtain ⟨q1, q2, q3, q4, c1, c2, c3⟩ := hu
  have eP : E = rdP ft cw tv nv n P := by rw [eE, eX, eP0, eTW]; rfl
  have eS : tt_end X = sp_texts ft TW nv P0 := by rw [eX]; rfl
  have x1 : E.1 = X.1 := by rw [eE]; rfl
  have sE : E.1 = (sp_texts ft TW nv P0).1 := by rw [eE, ← eS]; rfl
  have p01 : ∀ k, k ≠ 3 → k ≠ 11 → k ≠ 12 → P0.1 k = P.1 k := fun k a b c => by
    rw [eP0]; show va_up (va_up (va_up P.1 3 _) 11 _) 12 _ k = _
    rw [va_up_ne _ _ c, va_up_ne _ _ b, va_up_ne _ _ a]
  have p03 : P0.1 3 = n := by rw [eP0]; rfl
  obtain ⟨tw1, tw2, -⟩ := texts_wl (ft := ft) hwl
  have w6 : (tt_end X).1 6 < 2 ^ 31 := by rw [eS, k6_texts, p01 6 (by decide) (by decide) (by decide)]; exact hI.2.2.2.2.2.2
  have wlE : wl TW nv T (tt_end X) := by rw [eS]; exact tw1
  have MIE : MI E := by rw [eE]; exact MI_m89 wlE hI w6
  have rE : ∀ k, k < 16 → E.2.2.1 k = P0.2.2.1 k := fun k hk => by
    rw [eE]; show va_up (va_up (tt_end X).2.2.1 48 _) 49 _ k = _
    rw [va_up_ne _ _ (show k ≠ 49 by omega), va_up_ne _ _ (show k ≠ 48 by omega), eS]; exact r7_texts hk
  have mtE : MT E.2.2.1 TW := fun t => by rw [rE 7 (by decide), rE 8 (by decide), rE 9 (by decide)]; exact hmt t
  have plE : ∀ t, nF pp t = nI (E.2.2.1 8 t) := fun t => by rw [rE 8 (by decide)]; exact congrArg nI (hpp t)
  have b14E : E.1 14 < 2 ^ 31 := by
    rw [sE]
    exact (b14_texts ⟨by rw [p01 14 (by decide) (by decide) (by decide)]; exact h14, fun t => by have := (hmt t).2.2; omega⟩).1
  have e3 : E.1 3 = n := by rw [sE, k3_texts]; exact p03
  have e15 : E.1 15 ≤ 8 := by rw [sE]; exact tw2.1
  have hck : E.1 13 = 0 → chk ft TW gw gp nv (zs E 5 0) ∧ isb E := fun z => by
    have k := (hkc (by rw [← x1]; exact z)).1
    rw [eE] at k ⊢
    exact chk_of k hI w6 g8 g10
  have key : X.1 13 = 0 → kck ft gw gp nv E f = none → ∃ rk, BRD ft gp (k_all ft gw gp nv (E.1 15) 0 E).2 rk (E.1 15 - 1) ∧ a44 (k_all ft gw gp nv (E.1 15) 0 E).2 ∧ kb_p ft gp (k_all ft gw gp nv (E.1 15) 0 E).2 ∧ (k_all ft gw gp nv (E.1 15) 0 E).2.1 15 = E.1 15 ∧ sbl (rdR (rdC ft gw gp nv E)) (k_all ft gw gp nv (E.1 15) 0 E).2 ∧ 1 ≤ E.1 15 := fun z ek => by
    obtain ⟨kc, p8⟩ := hkc z
    obtain ⟨ad, tg, ck, -⟩ := c3 z ek
    have s44E : s44 E := MIE.2.2.2.1
    have c1E : 1 ≤ E.1 15 := kc.2.2.1.c1
    obtain ⟨hbr, h4⟩ := brd_of (f := f) (c0 := E.1 15 - 1) ck kc p8 (kck_fs kc s44E ek) (by omega)
    exact ⟨_, hbr, h4, kb_of ck kc, ck.2.2.2.1.1 15 (by decide) (by decide), ((flt_cmp kc s44E (by rw [rE 8 (by decide)]; exact htc) f).1 ek).2.2, c1E⟩
  refine ⟨eP, hck, fun z => (hkc (by rw [← x1]; exact z)).1.2.2.1.c1, b14E, fun z z5 hft => ?_, fun W hW => ?_⟩
  · have z' : X.1 13 = 0 := by rw [← x1]; exact z
    obtain ⟨kc, p8⟩ := hkc z'
    have s44E : s44 E := MIE.2.2.2.1
    obtain ⟨f1, f2⟩ := flt_cmp kc s44E (by rw [rE 8 (by decide)]; exact htc) f
    rcases ek : kck ft gw gp nv E f with _ | ⟨n9, t9⟩
    · obtain ⟨rk, hbr, h4, hkb, k15, sb, c15⟩ := key z' ek
      have r15 : (rdR (rdC ft gw gp nv E)).1 15 = (k_all ft gw gp nv (E.1 15) 0 E).2.1 15 := by rw [k15]; exact rd_15
      have eN : rdN (rdR (rdC ft gw gp nv E)) B.2.2.2.2.2.1 = rdN (k_all ft gw gp nv (E.1 15) 0 E).2 B.2.2.2.2.2.1 := by unfold rdN; rw [sb.1, sb.2.1, r15]
      have eY : rbS ft TW gp (rdR (rdC ft gw gp nv E)) B.1 = bl_all ft TW gp (k_all ft gw gp nv (E.1 15) 0 E).2 8001 (np (ow (k_all ft gw gp nv (E.1 15) 0 E).2) (2 + (E.1 15 - 1)) ((0, 0, 0), B.1.2)) := by unfold rbS; rw [sbl_all sb, sbl_ow sb, r15, k15]
      rw [eN, rd_15] at hft
      obtain ⟨wf, hr, m23, ho, -⟩ := id hbr
      obtain ⟨-, t2, t3, -⟩ := two_boards (tv := TW) (gl := B.2.2.1) (go := B.2.2.2.1) (G0 := B.2.1) hbr h4 hkb hz U.2.2.2 U.2.2.1 hB3 hB4 hft eY rfl rfl
      rw [eN]
      exact ⟨sbl_bf sb r15 (bfix_of hr wf h4 ho _), sbl_kb sb r15 hkb, t2, t3⟩
    · obtain ⟨y1, y2, -⟩ := f2 n9 t9 ek
      omega
  by_cases z : X.1 13 = 0
  · have zE : E.1 13 = 0 := by rw [x1]; exact z
    obtain ⟨kc, p8⟩ := hkc z
    obtain ⟨hk0, hi0⟩ := hck zE
    obtain ⟨zk, zi, z1, zr⟩ := rdz hk0 hi0
    have s44E : s44 E := MIE.2.2.2.1
    obtain ⟨f1, f2⟩ := flt_cmp kc s44E (by rw [rE 8 (by decide)]; exact htc) f
    have MIZ : MI (rdR (rdC ft gw gp nv E)) := MI_chk zk zi (by rw [z1 13 (by decide) (by decide), zE]; decide)
    have mtZ : MT (rdR (rdC ft gw gp nv E)).2.2.1 TW := fun t => by rw [zr 7 (by decide) (by decide), zr 8 (by decide) (by decide), zr 9 (by decide) (by decide)]; exact mtE t
    have plZ : ∀ t, nF pp t = nI ((rdR (rdC ft gw gp nv E)).2.2.1 8 t) := fun t => by rw [zr 8 (by decide) (by decide)]; exact plE t
    have b14Z : (rdR (rdC ft gw gp nv E)).1 14 < 2 ^ 31 := by rw [z1 14 (by decide) (by decide)]; exact b14E
    have c15Z : (rdR (rdC ft gw gp nv E)).1 15 ≤ 8 := by rw [z1 15 (by decide) (by decide)]; exact e15
    have z3 : (rdR (rdC ft gw gp nv E)).1 3 = n := by rw [z1 3 (by decide) (by decide)]; exact e3
    rcases ek : kck ft gw gp nv E f with _ | ⟨n9, t9⟩
    · obtain ⟨e5, kn, sb⟩ := f1 ek
      obtain ⟨rk, hbr, h4, hkb, k15, -, c15⟩ := key z ek
      obtain ⟨ad, tg, ck, ca, cb⟩ := c3 z ek
      have r15 : (rdR (rdC ft gw gp nv E)).1 15 = (k_all ft gw gp nv (E.1 15) 0 E).2.1 15 := by rw [k15]; exact rd_15
      have eN : rdN (rdR (rdC ft gw gp nv E)) B.2.2.2.2.2.1 = rdN (k_all ft gw gp nv (E.1 15) 0 E).2 B.2.2.2.2.2.1 := by unfold rdN; rw [sb.1, sb.2.1, r15]
      have eY : rbS ft TW gp (rdR (rdC ft gw gp nv E)) B.1 = bl_all ft TW gp (k_all ft gw gp nv (E.1 15) 0 E).2 8001 (np (ow (k_all ft gw gp nv (E.1 15) 0 E).2) (2 + (E.1 15 - 1)) ((0, 0, 0), B.1.2)) := by unfold rbS; rw [sbl_all sb, sbl_ow sb, r15, k15]
      have hW1 : W = rdB ft TW gp 8001 (rdR (rdC ft gw gp nv E)) B := by rw [hW]; unfold rdA; rw [← eP, if_pos zE, if_pos e5, ← eTW]
      have z66 : MI (zs (zs (rdR (rdC ft gw gp nv E)) 5 6) 6 ((rdR (rdC ft gw gp nv E)).1 3)) := ⟨MIZ.1, MIZ.2.1, MIZ.2.2.1, MIZ.2.2.2.1, MIZ.2.2.2.2.1, MIZ.2.2.2.2.2.1, by show (rdR (rdC ft gw gp nv E)).1 3 < 2 ^ 31; rw [z3]; omega⟩
      have cl : cle (rdN (k_all ft gw gp nv (E.1 15) 0 E).2 B.2.2.2.2.2.1) := cle_n _ _ hB1
      obtain ⟨wf, hr, m23, ho, hi, hw, h0⟩ := id hbr
      unfold rdB at hW1
      rw [eN, rd_15] at hW1
      generalize hYe : rbS ft TW gp (rdR (rdC ft gw gp nv E)) B.1 = Y at hW1 eY
      by_cases hft : (rdN (k_all ft gw gp nv (E.1 15) 0 E).2 B.2.2.2.2.2.1).1 (E.1 15 - 1) ≤ 300 ∧ (rdN (k_all ft gw gp nv (E.1 15) 0 E).2 B.2.2.2.2.2.1).2 (E.1 15 - 1) ≤ 8000
      · rw [if_pos hft] at hW1
        obtain ⟨ht, -, tk, _, _, _, _, bb, o1, io, -, -⟩ := two_boards (tv := TW) (gl := B.2.2.1) (go := B.2.2.2.1) (G0 := B.2.1) hbr h4 hkb hz U.2.2.2 U.2.2.1 hB3 hB4 hft eY rfl rfl
        obtain ⟨_, _, -, -, -, l4⟩ := rbs_ltf (tv := TW) hbr (bfix_of hr wf h4 ho B.2.2.2.2.2.1) hkb hft.1 hft.2 hB3 hB4 eY
        generalize hGe : rbG 8001 Y B.2.1 = Gr at hW1 tk bb o1 io
        generalize hOe : rbO Y Gr B.2.2.1 B.2.2.2.1 = O at hW1 tk o1 io
        have og : O.2.2.1 ≤ Y.1.2.2 := by rw [← o1.2.2.2]; exact cns_le _ _
        by_cases eo : O.2.2.1 = rbK Y B.2.2.1
        · rw [if_pos eo] at hW1
          have ha := io.mpr eo
          have hok : bok_ ft TW gp (k_all ft gw gp nv (E.1 15) 0 E).2 (E.1 15 - 1) U.2.1 U.2.2.2 U.2.2.1 = true := by unfold bok_; rw [ht, ha]; rfl
          obtain ⟨cu1, cu2⟩ := cb hok
          obtain ⟨bC, gC, bR, gR, hst, hva, hon⟩ := bst_new (tv := TW) (bv := B.2.2.2.2.1) (gl := B.2.2.1) (go := B.2.2.2.1) (G0 := B.2.1) hbr h4 hkb hz U.2.2.2 U.2.2.1 hB3 hB4 hft eY hGe.symm hOe.symm ha
          obtain ⟨pn1, pn2, pn3⟩ := PNS_of ck kc p8 (c := E.1 15 - 1) (by omega)
          have ec : E.1 15 - 1 + 1 = E.1 15 := by omega
          rw [hW1, cu1]
          refine ⟨rfl, ⟨Nat.zero_le _, fun i hi => absurd hi (Nat.not_lt_zero _), rfl⟩, ⟨hki, mtZ, plZ⟩, ⟨MIZ, b14Z⟩, ⟨q2, q1, q3, q4⟩, ⟨cl, st_set_le _ _ _ (fun j => Nat.lt_succ_iff.mp (rs_lt (v := 0) (b := 2) (by decide) _ _ _ (fun j => Nat.lt_succ_of_le (hB2 j)) j)), l4.2.2.2.2.1, tk.2.2.1, hB5, gl_le o1 tk hOe.symm hB6, ⟨og, tk.2.1⟩, tk.2.2.2.2.2, by show E.1 15 - 1 < 8; omega, c15Z⟩, fun _ => ?_, fun q9 => absurd (show true = false from q9) (by decide)⟩
          refine ⟨ft, TW, (k_all ft gw gp nv (E.1 15) 0 E).2, bC, gC, bR, gR, (bzl ft TW gp (k_all ft gw gp nv (E.1 15) 0 E).2 (E.1 15 - 1) U.2.1).2, (bA ft TW gp (k_all ft gw gp nv (E.1 15) 0 E).2 (E.1 15 - 1) U.2.1 U.2.2.2 U.2.2.1).2, O, ad 0 (E.1 15 - 1), icn (E.2.2.2.2 19) (E.2.2.1 17 (E.1 15 - 1)) (E.2.2.1 17 (E.1 15 - 1 + 1) - E.2.2.1 17 (E.1 15 - 1)), rga (ad 5) (E.2.2.1 17 (E.1 15 - 1)) (E.2.2.1 17 (E.1 15 - 1 + 1)), E.1 15 - 1, 0, (bV ft TW gp (k_all ft gw gp nv (E.1 15) 0 E).2 (E.1 15 - 1) U.2.1 U.2.2.2 U.2.2.1).2, ?_, by omega, by rw [cu2]; exact hst, ⟨rfl, rfl, rfl⟩, ⟨rfl, rfl⟩, by rw [cu2]; exact ⟨rfl, rfl, rfl⟩, by rw [cu2]; exact Prod.ext rfl (Prod.ext (by show Value.int (nI (E.1 15)) = .int (nI (E.1 15 - 1 + 1)); rw [ec]) rfl), ?_, by rw [cu2]; exact hva, by rw [cu2]; exact hon⟩
          · show (rdR (rdC ft gw gp nv E)).1 15 = _; rw [rd_15, ec]
          · show PNS t0 _ _ _ _ ((rdR (rdC ft gw gp nv E)).2.2.1 17) ((rdR (rdC ft gw gp nv E)).2.2.1 21) ((rdR (rdC ft gw gp nv E)).2.2.2.2 19) _ ∧ _ = m_psum ((rdR (rdC ft gw gp nv E)).2.2.1 21) _ ((rdR (rdC ft gw gp nv E)).2.2.1 17 _) 0 ∧ m_psum ((rdR (rdC ft gw gp nv E)).2.2.1 21) _ ((rdR (rdC ft gw gp nv E)).2.2.1 17 _) 0 ≤ _
            have z19 : (rdR (rdC ft gw gp nv E)).2.2.2.2 19 = E.2.2.2.2 19 := by rw [sb.2.2]; exact ck.2.2.2.1.2.2.2 19 (by decide)
            rw [zr 17 (by decide) (by decide), zr 21 (by decide) (by decide), z19]
            exact ⟨pn1, pn2, pn3⟩
        · rw [if_neg eo] at hW1
          have hok : bok_ ft TW gp (k_all ft gw gp nv (E.1 15) 0 E).2 (E.1 15 - 1) U.2.1 U.2.2.2 U.2.2.1 = false := by
            unfold bok_; rw [ht, Bool.true_and]; exact Bool.eq_false_iff.mpr (fun q => eo (io.mp q))
          obtain ⟨cu1, cu2⟩ := ca hok
          rw [hW1, cu1]
          refine ⟨rfl, ⟨Nat.zero_le _, fun i hi => absurd hi (Nat.not_lt_zero _), by rw [z3]; rfl⟩, ⟨hki, mtZ, plZ⟩, ⟨z66, b14Z⟩, ⟨q2, q1, q3, q4⟩, ⟨cl, hB2, l4.2.2.2.2.1, tk.2.2.1, hB5, gl_le o1 tk hOe.symm hB6, ⟨og, tk.2.1⟩, tk.2.2.2.2.2, by show E.1 15 - 1 < 8; omega, c15Z⟩, fun q9 => absurd (show false = true from q9) (by decide), fun _ => cu2⟩
      · rw [if_neg hft] at hW1
        have hbz : (bzl ft TW gp (k_all ft gw gp nv (E.1 15) 0 E).2 (E.1 15 - 1) U.2.1).1 = false := by
          refine Bool.eq_false_iff.mpr (fun q => hft ((fits_of hr wf h4 B.2.2.2.2.2.1 h0).mpr ?_))
          have w := ((lay_cn (ft := ft) (tv := TW) (gp := gp) (fg := 2 + inw (k_all ft gw gp nv (E.1 15) 0 E).2 (E.1 15 - 1 + 2)) hr wf 8 (E.1 15 - 1) 0 (bz0 (k_all ft gw gp nv (E.1 15) 0 E).2 (E.1 15 - 1) U.2.1) h0 (by have := hr.2.1 (E.1 15 - 1) h0; have := hr.2.2; omega) ⟨hw, Nat.zero_le _⟩ (by show ow (k_all ft gw gp nv (E.1 15) 0 E).2 (E.1 15 - 1) + ow (k_all ft gw gp nv (E.1 15) 0 E).2 (E.1 15 - 1) ≤ _; omega)).1).mp q
          have w1 : ow (k_all ft gw gp nv (E.1 15) 0 E).2 (E.1 15 - 1) + tb2 (k_all ft gw gp nv (E.1 15) 0 E).2 (E.1 15 - 1) ≤ 8000 + ow (k_all ft gw gp nv (E.1 15) 0 E).2 (E.1 15 - 1) := w.1
          have w2 : 0 + tg_ (k_all ft gw gp nv (E.1 15) 0 E).2 (E.1 15 - 1) ≤ 300 := w.2
          exact ⟨by omega, by omega⟩
        have hok : bok_ ft TW gp (k_all ft gw gp nv (E.1 15) 0 E).2 (E.1 15 - 1) U.2.1 U.2.2.2 U.2.2.1 = false := by unfold bok_; rw [hbz]; rfl
        obtain ⟨cu1, cu2⟩ := ca hok
        rw [hW1, cu1]
        refine ⟨rfl, ⟨Nat.zero_le _, fun i hi => absurd hi (Nat.not_lt_zero _), by rw [z3]; rfl⟩, ⟨hki, mtZ, plZ⟩, ⟨z66, b14Z⟩, ⟨q2, q1, q3, q4⟩, ⟨cl, hB2, hB3, hB4, hB5, hB6, hB7, hB8, by show E.1 15 - 1 < 8; omega, c15Z⟩, fun q9 => absurd (show false = true from q9) (by decide), fun _ => cu2⟩
    · obtain ⟨y1, y2, y3⟩ := f2 n9 t9 ek
      obtain ⟨cu1, cu2⟩ := c2 z n9 t9 ek
      have hW1 : W = (((rdR (rdC ft gw gp nv E)).1 5, some ((rdR (rdC ft gw gp nv E)).1 6), false), rdR (rdC ft gw gp nv E), B) := by
        rw [hW]; unfold rdA; rw [← eP, if_pos zE, if_neg (show ¬ (rdR (rdC ft gw gp nv E)).1 5 = 0 by omega)]
      rw [hW1, cu1]
      refine ⟨y2.symm, ⟨Nat.zero_le _, fun i hi => absurd hi (Nat.not_lt_zero _), ?_⟩, ⟨hki, mtZ, plZ⟩, ⟨MIZ, b14Z⟩, ⟨q2, q1, q3, q4⟩, ⟨hB1, hB2, hB3, hB4, hB5, hB6, hB7, hB8, hB9, c15Z⟩, fun q9 => absurd (show false = true from q9) (by decide), fun _ => cu2⟩
      show nI (pp t9) = oI (some ((rdR (rdC ft gw gp nv E)).1 6))
      rw [y3, rE 8 (by decide), ← hpp t9]; rfl
  · obtain ⟨cu1, cu2⟩ := c1 z
    have hW1 : W = ((E.1 13, some (E.1 14), false), E, B) := by
      rw [hW]; unfold rdA; rw [← eP, if_neg (show ¬ E.1 13 = 0 by rw [x1]; exact z)]
    rw [hW1, cu1]
    exact ⟨by show X.1 13 = E.1 13; rw [x1], ⟨Nat.zero_le _, fun i hi => absurd hi (Nat.not_lt_zero _), by show nI (X.1 14) = oI (some (E.1 14)); rw [x1]; rfl⟩, ⟨hki, mtE, plE⟩, ⟨MIE, b14E⟩, ⟨q2, q1, q3, q4⟩, ⟨hB1, hB2, hB3, hB4, hB5, hB6, hB7, hB8, hB9, e15⟩, fun q9 => absurd (show false = true from q9) (by decide), fun _ => cu2⟩
end RDP
