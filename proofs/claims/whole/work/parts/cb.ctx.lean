/-! The tokens of a text on both sides; what older texts left behind them -/
theorem scan_old {b ft : Nat → Int32} {n : Nat} {cw : Nat → Int32} {RR : Nat} (h : rb b ft n) (hn : n ≤ 2000) (hc : rw_ cw RR 0 kwl) (hR : 6 ≤ RR) :
    ∀ (k t i : Nat) (S : TS) (C : R5), t + k = 1001 → 0 < k → i ≤ n → S.1 = t → t < (m_tkz ft n cw RR k (m_skip ft n n i) S).1 ∧ ∀ u, (m_tkz ft n cw RR k (m_skip ft n n i) S).1 ≤ u → ((m_tkz ft n cw RR k (m_skip ft n n i) S).2.1 u = S.2.1 u ∧ (m_tkz ft n cw RR k (m_skip ft n n i) S).2.2.1 u = S.2.2.1 u ∧ (m_tkz ft n cw RR k (m_skip ft n n i) S).2.2.2.1 u = S.2.2.2.1 u ∧ (m_tkz ft n cw RR k (m_skip ft n n i) S).2.2.2.2 u = S.2.2.2.2 u) ∧ (tx_scan b n k t i C).1 u = C.1 u ∧ (tx_scan b n k t i C).2.1 u = C.2.1 u
  | 0, t, i, S, C, _, h0, _, _ => absurd h0 (Nat.lt_irrefl 0)
  | k + 1, t, i, S, C, hk, _, hi, hS => by
    subst hS
    obtain ⟨hs, hsn⟩ := rb_skip h n i hi (by omega)
    have es : tx_scan b n (k + 1) S.1 i C = if tk_kind b n (tx_skip b n n i) = nI 0 ∨ tk_kind b n (tx_skip b n n i) = nI 1 then tx_step b n S.1 (tx_skip b n n i) C else tx_scan b n k (S.1 + 1) (tk_end b n (tx_skip b n n i)) (tx_step b n S.1 (tx_skip b n n i) C) := rfl
    rw [es]
    generalize ha : tx_skip b n n i = a at *
    have stp : ∀ u, S.1 < u → (tx_step b n S.1 a C).1 u = C.1 u ∧ (tx_step b n S.1 a C).2.1 u = C.2.1 u := fun u hu => by
      have ne : u ≠ S.1 := by omega
      refine ⟨?_, ?_⟩
      · show upd C.1 S.1 (tk_kind b n a) u = C.1 u
        simp [upd, ne]
      · show upd C.2.1 S.1 (nI a) u = C.2.1 u
        simp [upd, ne]
    have tok : ∀ ki a' e' vi u, S.1 < u → (m_tok S ki a' e' vi).2.1 u = S.2.1 u ∧ (m_tok S ki a' e' vi).2.2.1 u = S.2.2.1 u ∧ (m_tok S ki a' e' vi).2.2.2.1 u = S.2.2.2.1 u ∧ (m_tok S ki a' e' vi).2.2.2.2 u = S.2.2.2.2 u := fun ki a' e' vi u hu => by
      have ne : u ≠ S.1 := by omega
      refine ⟨va_up_ne _ _ ne, va_up_ne _ _ ne, va_up_ne _ _ ne, ?_⟩
      show upd S.2.2.2.2 S.1 vi u = S.2.2.2.2 u
      simp [upd, ne]
    have one : ∀ ki a' e' vi, S.1 < (m_tok S ki a' e' vi).1 ∧ ∀ u, (m_tok S ki a' e' vi).1 ≤ u → ((m_tok S ki a' e' vi).2.1 u = S.2.1 u ∧ (m_tok S ki a' e' vi).2.2.1 u = S.2.2.1 u ∧ (m_tok S ki a' e' vi).2.2.2.1 u = S.2.2.2.1 u ∧ (m_tok S ki a' e' vi).2.2.2.2 u = S.2.2.2.2 u) ∧ (tx_step b n S.1 a C).1 u = C.1 u ∧ (tx_step b n S.1 a C).2.1 u = C.2.1 u := fun ki a' e' vi => ⟨Nat.lt_succ_self _, fun u hu => by
      have hu : S.1 + 1 ≤ u := hu
      exact ⟨tok ki a' e' vi u (by omega), stp u (by omega)⟩⟩
    rcases hs with hs | ⟨hs, hlt, h47⟩
    · rw [hs]
      rcases Nat.lt_or_ge a n with han | han
      · rcases tok_eq (S := S) (i := a) h hn han hc hR with ⟨ki, e, vi, g1, g2, g3, g4, ⟨g5, g5'⟩, g6, g7⟩ | ⟨g1, g2⟩
        · rw [if_neg (by rintro (z | z); exact g5 z; exact g5' z), g2]
          by_cases h1000 : 1000 < S.1 + 1
          · have h1 : S.1 = 1000 := by omega
            have k0 : k = 0 := by omega
            subst k0
            rw [m_tkz_o hn han g1 h1000]
            refine ⟨Nat.lt_succ_self _, fun u hu => ?_⟩
            have hu : S.1 + 1 ≤ u := hu
            obtain ⟨z1, z2, z3, z4⟩ := tok ki a e vi u (by omega)
            refine ⟨⟨?_, z2, z3, z4⟩, ?_, (stp u (by omega)).2⟩
            · show va_up (m_tok S ki a e vi).2.1 1000 7 u = S.2.1 u
              rw [va_up_ne _ _ (by omega)]; exact z1
            · show upd (tx_step b n S.1 a C).1 1000 (nI 2) u = C.1 u
              have ne : u ≠ 1000 := by omega
              rw [show upd (tx_step b n S.1 a C).1 1000 (nI 2) u = (tx_step b n S.1 a C).1 u by simp [upd, ne]]
              exact (stp u (by omega)).1
          · rw [m_tkz_m hn han g1 h1000]
            obtain ⟨x1, x2⟩ := scan_old h hn hc hR k (S.1 + 1) e (m_tok S ki a e vi) (tx_step b n S.1 a C) (by omega) (by omega) (by omega) rfl
            refine ⟨by omega, fun u hu => ?_⟩
            obtain ⟨⟨y1, y2, y3, y4⟩, y5, y6⟩ := x2 u hu
            obtain ⟨z1, z2, z3, z4⟩ := tok ki a e vi u (by omega)
            exact ⟨⟨y1.trans z1, y2.trans z2, y3.trans z3, y4.trans z4⟩, y5.trans (stp u (by omega)).1, y6.trans (stp u (by omega)).2⟩
        · rw [if_pos (Or.inr g2), m_tkz_b hn han g1]
          exact one 6 a a (nI 0)
      · have ek : tk_kind b n a = nI 0 := by unfold tk_kind; rw [if_pos han]
        rw [if_pos (Or.inl ek), m_tkz_e hn (by omega) han]
        exact one 0 n n (nI 0)
    · rw [hs, m_tkz_n hn hlt]
      have ek : tk_kind b n a = nI 1 := by
        rcases tok_eq (S := S) (i := a) h hn hlt hc hR with ⟨ki, e, vi, g1, -⟩ | ⟨g1, g2⟩
        · unfold m_ctok at g1
          rw [h47, if_neg (by decide), if_neg (by decide), if_neg (by decide), if_neg (by rintro ⟨z, -⟩; exact absurd z (by decide))] at g1
          cases congrArg Prod.fst g1
        · exact g2
      rw [if_pos (Or.inr ek)]
      exact one 6 a a (nI 0)
/-- numbers stay below 100 -/
def nums (f : Nat → Int32) : Prop := ∀ u, ∃ m, m ≤ 99 ∧ f u = nI m
theorem scan_num {b ft : Nat → Int32} {n : Nat} (h : rb b ft n) : ∀ (k t i : Nat) (C : R5), nums C.2.2.1 → nums (tx_scan b n k t i C).2.2.1
  | 0, _, _, C, hc => hc
  | k + 1, t, i, C, hc => by
    have st : nums (tx_step b n t (tx_skip b n n i) C).2.2.1 := fun u => by
      show ∃ m, m ≤ 99 ∧ tk_num b n (tx_skip b n n i) t C.2.2.1 u = nI m
      generalize tx_skip b n n i = a
      by_cases e : u = t
      · unfold tk_num
        split
        · exact hc u
        · rename_i hn
          split
          · split
            · rename_i hw hd
              unfold tx_numf
              have ew : tx_wend b (n - a) a = m_wend ft (n - a) a := rb_wend h _ _ (by omega)
              rw [ew]
              have hd' : tx_digit (ft a) = true := by rw [← rb_digit h (by omega)]; exact hd
              rcases num_eq h (by omega) hd' with ⟨-, q1, -, v, q2, -, q3⟩ | ⟨-, q1⟩
              · rw [if_pos q1, q3]
                exact ⟨v, q2, by subst e; simp [upd]⟩
              · rw [if_neg (by rw [q1]; decide)]
                exact hc u
            · exact hc u
          · exact hc u
      · rw [tk_num_ne e]; exact hc u
    show nums (if tk_kind b n (tx_skip b n n i) = nI 0 ∨ tk_kind b n (tx_skip b n n i) = nI 1 then tx_step b n t (tx_skip b n n i) C else tx_scan b n k (t + 1) (tk_end b n (tx_skip b n n i)) (tx_step b n t (tx_skip b n n i) C)).2.2.1
    split
    · exact st
    · exact scan_num h k _ _ _ st
/-- a number out of an int -/
def un (x : Int32) : Nat := x.toBitVec.toNat
theorem un_nI (x : Int32) : nI (un x) = x := by
  apply Int32.toBitVec_inj.mp
  show BitVec.ofNat 32 x.toBitVec.toNat = x.toBitVec
  apply BitVec.eq_of_toNat_eq
  rw [BitVec.toNat_ofNat]
  exact Nat.mod_eq_of_lt x.toBitVec.isLt
theorem un_n {m : Nat} (h : m < 2 ^ 32) : un (nI m) = m := by
  show (BitVec.ofNat 32 m).toNat = m
  rw [BitVec.toNat_ofNat]; exact Nat.mod_eq_of_lt h
/-- what holds of the token rows at all times: the class's, the reference's -/
def KI (C : R5) : Prop := (¬ C.1 1000 = nI 3 ∧ ¬ (C.1 1000 = nI 10 ∨ C.1 1000 = nI 11)) ∧ nums C.2.2.1
def MT (A : Nat → Nat → Nat) (tv : Nat → Int32) : Prop := ∀ t, A 7 t < 8 ∧ (A 7 t = 2 → ∃ v, v ≤ 99 ∧ tv t = nI v) ∧ A 8 t + A 9 t ≤ 2000
/-- the tokens of a text -/
theorem scan_ctx {b ft : Nat → Int32} {n : Nat} {cw : Nat → Int32} {RR : Nat} (h : rb b ft n) (hn : n ≤ 2000) (hc : rw_ cw RR 0 kwl) (hR : 6 ≤ RR) {A : Nat → Nat → Nat} {tv : Nat → Int32} {C : R5} (hK : KI C) (hM : MT A tv) (hP : ∀ u, C.2.1 u = nI (A 8 u)) {M : TS} (eM : M = m_tkz ft n cw RR 1001 (m_skip ft n n 0) (0, A 7, A 8, A 9, tv)) {R : R5} (eR : R = tx_scan b n 1001 0 0 C) {A' : Nat → Nat → Nat} (e7 : A' 7 = M.2.1) (e8 : A' 8 = M.2.2.1) (e9 : A' 9 = M.2.2.2.1) :
    KI R ∧ MT A' M.2.2.2.2 ∧ (∀ u, R.2.1 u = nI (A' 8 u)) ∧ (∀ t, un (R.2.2.1 t) ≤ 99) ∧ R = (R.1, nF (fun u => un (R.2.1 u)), nF (fun u => un (R.2.2.1 u)), R.2.2.2.1, R.2.2.2.2) ∧ ∃ T, tke ft M.2.2.2.2 (fun u => un (M.2.2.2.2 u)) T A' R.1 (fun u => un (R.2.1 u)) (fun u => un (R.2.2.1 u)) R.2.2.2.1 R.2.2.2.2 ∧ tkv M.2.2.2.2 (fun u => un (M.2.2.2.2 u)) T A' ∧ M.1 = T + 1 := by
  obtain ⟨T, k1, k2, k3, k4, k5⟩ := scan_eq h hn hc hR 1001 0 0 (0, A 7, A 8, A 9, tv) C (by decide) (by decide) (Nat.zero_le _) rfl (fun u hu => absurd hu (Nat.not_lt_zero _)) (fun u hu => absurd hu (Nat.not_lt_zero _))
  obtain ⟨-, o2⟩ := scan_old h hn hc hR 1001 0 0 (0, A 7, A 8, A 9, tv) C (by decide) (by decide) (Nat.zero_le _) rfl
  have nm := scan_num h 1001 0 0 C hK.2
  rw [← eM, ← eR] at k3 o2
  rw [← eM] at k2 k4 k5
  rw [← eR] at nm
  have mt : MT A' M.2.2.2.2 := fun t => by
    rw [e7, e8, e9]
    by_cases z : t < T + 1
    · obtain ⟨-, p2, p3⟩ := k3 t z
      refine ⟨?_, fun q => ?_, p2⟩
      · rcases p3 with p | p | p | p | p | p | p | p <;> omega
      · rcases p3 with p | p | p | p | p | p | p | p
        · omega
        · omega
        · obtain ⟨-, -, v, v1, v2, -⟩ := p; exact ⟨v, v1, v2⟩
        all_goals omega
    · obtain ⟨⟨q1, q2, q3, q4⟩, -, -⟩ := o2 t (by omega)
      have q1 : M.2.1 t = A 7 t := q1
      have q2 : M.2.2.1 t = A 8 t := q2
      have q3 : M.2.2.2.1 t = A 9 t := q3
      have q4 : M.2.2.2.2 t = tv t := q4
      rw [q1, q2, q3, q4]; exact hM t
  refine ⟨⟨?_, nm⟩, mt, fun u => ?_, fun t => ?_, ?_, T, ⟨k1, by rw [e7]; exact k4, by rw [e7]; exact k5, fun u hu => ?_⟩, ⟨fun j => (mt j).1, ⟨by omega, ?_⟩, fun t ht => ?_, fun t => (mt t).2.2⟩, k2⟩
  · by_cases z : 1000 < T + 1
    · obtain ⟨-, -, p3⟩ := k3 1000 z
      have e : T = 1000 := by omega
      rw [e] at k4
      have bad : R.1 1000 = nI 0 ∨ R.1 1000 = nI 1 ∨ R.1 1000 = nI 2 := by
        rcases p3 with p | p | p | p | p | p | p | p
        · exact Or.inl p.2
        · omega
        · omega
        · omega
        · omega
        · omega
        · exact Or.inr (Or.inl p.2)
        · exact Or.inr (Or.inr p.2)
      rcases bad with p | p | p <;> rw [p] <;> decide
    · rw [(o2 1000 (by omega)).2.1]; exact hK.1
  · rw [e8]
    by_cases z : u < T + 1
    · exact (k3 u z).1
    · obtain ⟨⟨-, q2, -⟩, -, q5⟩ := o2 u (by omega)
      have q2 : M.2.2.1 u = A 8 u := q2
      rw [q5, q2]; exact hP u
  · obtain ⟨m, m1, m2⟩ := nm t
    rw [m2, un_n (by omega)]; exact m1
  · refine Prod.ext rfl (Prod.ext ?_ (Prod.ext ?_ rfl))
    · funext u; exact (un_nI _).symm
    · funext u; exact (un_nI _).symm
  · obtain ⟨p1, p2, p3⟩ := k3 u (by omega)
    refine ⟨by show un (R.2.1 u) = A' 8 u; rw [e8, p1, un_n (by omega)], ?_⟩
    rw [e7, e8, e9]
    rcases p3 with p | p | p | p | p | p | p | p
    · exact Or.inl p
    · exact Or.inr (Or.inl p)
    · obtain ⟨a1, a2, v, v1, v2, v3⟩ := p
      exact Or.inr (Or.inr (Or.inl ⟨a1, a2, by show un (R.2.2.1 u) = un (M.2.2.2.2 u); rw [v2, v3]⟩))
    · exact Or.inr (Or.inr (Or.inr (Or.inl p)))
    · exact Or.inr (Or.inr (Or.inr (Or.inr (Or.inl p))))
    · exact Or.inr (Or.inr (Or.inr (Or.inr (Or.inr (Or.inl p)))))
    · exact Or.inr (Or.inr (Or.inr (Or.inr (Or.inr (Or.inr (Or.inl p))))))
    · exact Or.inr (Or.inr (Or.inr (Or.inr (Or.inr (Or.inr (Or.inr p))))))
  · rw [e7]; omega
  · obtain ⟨v, v1, v2⟩ := (mt t).2.1 ht
    show M.2.2.2.2 t = nI (un (M.2.2.2.2 t)) ∧ un (M.2.2.2.2 t) ≤ 99
    rw [v2, un_n (by omega)]; exact ⟨rfl, v1⟩
/-! The text's length stays where it is while chips are parsed -/
section K3
variable {ft tv : Nat → Int32} {nv : Nat → Nat}
theorem k3_one {ob : Bool} {P : PS} : (pl_one tv nv ob P).1 3 = P.1 3 := by
  have h1 : (pl_q1 ob P).1 3 = P.1 3 := zk_go (by decide) (by decide) (by decide)
  have h2 : (pl_q2 ob P).1 3 = P.1 3 := (zk_number (by decide) (by decide) (by decide)).trans ((zk_go (by decide) (by decide) (by decide)).trans h1)
  have h3 : (pl_q3 tv ob P).1 3 = P.1 3 := (zk_sign (by decide) (by decide) (by decide)).trans h2
  unfold pl_one
  split
  · split
    · exact h3
    · exact h3
  · exact h1
theorem k3_pl {ob : Bool} : ∀ (k : Nat) (P : PS), (pl_loop tv nv ob k P).1 3 = P.1 3
  | 0, _ => rfl
  | k + 1, P => by
    rw [pl_loop_s]
    split
    · split
      · split
        · split
          · rw [k3_pl k, zk_go (by decide) (by decide) (by decide)]; exact k3_one
          · rw [zk_sign (by decide) (by decide) (by decide)]; exact k3_one
        · exact k3_one
      · exact zk_wrong (by decide) (by decide)
    · exact zk_syntax (by decide) (by decide) (by decide)
theorem k3_chpl {ob : Bool} {X : PS} : (ch_pl tv nv ob X).1 3 = X.1 3 := by
  unfold ch_pl; split
  · exact k3_pl _ _
  · rfl
theorem k3_lk9 {R : PS} : (lk_end (lk10 (lk9 tv nv R))).1 3 = R.1 3 := by
  show (sp_range tv nv (sp_go R)).1 3 = R.1 3
  rw [zk_range (by decide) (by decide) (by decide) (by decide) (by decide), zk_go (by decide) (by decide) (by decide)]
theorem k3_nm {R : PS} : (lk_nm ft tv nv R).1 3 = R.1 3 := by
  have h7 : (lk7 R).1 3 = R.1 3 := zk_room (by decide) (by decide) (by decide)
  unfold lk_nm
  split
  · split
    · exact h7
    · rw [k3_lk9]; exact h7
  · exact k3_lk9
theorem k3_rt {Q : PS} : (lk_rt ft tv nv Q).1 3 = Q.1 3 := by
  unfold lk_rt
  split
  · show (sp_go Q).1 3 = _; exact zk_go (by decide) (by decide) (by decide)
  · split
    · rw [k3_nm]; rfl
    · show (sp_syntax Q).1 3 = _; exact zk_syntax (by decide) (by decide) (by decide)
theorem k3_link {P : PS} : (sp_link ft tv nv P).1 3 = P.1 3 := by
  have h5 : (lk5 tv nv P).1 3 = P.1 3 := zk_lk5 (by decide) (by decide) (by decide) (by decide) (by decide)
  unfold sp_link
  split
  · exact zk_name (by decide) (by decide) (by decide)
  · split
    · exact h5
    · rw [k3_rt]; exact h5
theorem k3_pt : ∀ (k : Nat) (P : PS), (pt_loop ft tv nv k P).1 3 = P.1 3
  | 0, _ => rfl
  | k + 1, P => by
    rw [pt_loop_s]
    split
    · split
      · rw [k3_pt k, zk_go (by decide) (by decide) (by decide)]; exact k3_link
      · exact k3_link
    · rfl
theorem k3_part {P : PS} : (sp_part ft tv nv P).1 3 = P.1 3 := by
  have h1 : (pt1 P).1 3 = P.1 3 := zk_room (by decide) (by decide) (by decide)
  unfold sp_part
  split
  · split
    · exact h1
    · rw [zk_sign (by decide) (by decide) (by decide), zk_sign (by decide) (by decide) (by decide), k3_pt]
      show (sp_sign tv (nI 40) (sp_go (pt2 (pt1 P)))).1 3 = P.1 3
      rw [zk_sign (by decide) (by decide) (by decide), zk_go (by decide) (by decide) (by decide)]
      exact h1
  · exact zk_syntax (by decide) (by decide) (by decide)
theorem k3_chl : ∀ (k : Nat) (P : PS), (ch_loop ft tv nv k P).1 3 = P.1 3
  | 0, _ => rfl
  | k + 1, P => by
    rw [ch_loop_s]
    split
    · rw [k3_chl k]; exact k3_part
    · rfl
theorem k3_chip {P : PS} : (sp_chip ft tv nv P).1 3 = P.1 3 := by
  have h1 : (ch1 tv P).1 3 = P.1 3 := zk_word (by decide) (by decide) (by decide)
  have h2 : (ch2 tv P).1 3 = P.1 3 := by
    unfold ch2; split
    · rw [zk_syntax (by decide) (by decide) (by decide)]; exact h1
    · exact h1
  have h3 : (ch3 tv P).1 3 = P.1 3 := by
    unfold ch3; split
    · rw [zk_room (by decide) (by decide) (by decide)]; exact h2
    · exact h2
  have h7 : ∀ R : PS, (ch7 tv nv R).1 3 = R.1 3 := fun R => by
    unfold ch7
    rw [zk_sign (by decide) (by decide) (by decide), zk_word (by decide) (by decide) (by decide), k3_chpl]
    unfold ch6
    rw [zk_word (by decide) (by decide) (by decide), k3_chpl]
    unfold ch5
    rw [zk_word (by decide) (by decide) (by decide), zk_sign (by decide) (by decide) (by decide), zk_go (by decide) (by decide) (by decide)]
    rfl
  unfold sp_chip
  split
  · exact h3
  · rw [zk_sign (by decide) (by decide) (by decide), k3_chl, h7]; exact h3
theorem k3_tt : ∀ (k : Nat) (P : PS), (tt_loop ft tv nv k P).1 3 = P.1 3
  | 0, _ => rfl
  | k + 1, P => by
    rw [tt_loop_s]
    split
    · split
      · exact k3_chip
      · rw [k3_tt k]; exact k3_chip
    · rfl
theorem k3_texts {P : PS} : (sp_texts ft tv nv P).1 3 = P.1 3 := by
  show (tt_loop ft tv nv 1002 (tt0 P)).1 3 = P.1 3
  rw [k3_tt]; rfl
theorem k6_one {ob : Bool} {P : PS} : (pl_one tv nv ob P).1 6 = P.1 6 := by
  have h1 : (pl_q1 ob P).1 6 = P.1 6 := zk_go (by decide) (by decide) (by decide)
  have h2 : (pl_q2 ob P).1 6 = P.1 6 := (zk_number (by decide) (by decide) (by decide)).trans ((zk_go (by decide) (by decide) (by decide)).trans h1)
  have h3 : (pl_q3 tv ob P).1 6 = P.1 6 := (zk_sign (by decide) (by decide) (by decide)).trans h2
  unfold pl_one
  split
  · split
    · exact h3
    · exact h3
  · exact h1
theorem k6_pl {ob : Bool} : ∀ (k : Nat) (P : PS), (pl_loop tv nv ob k P).1 6 = P.1 6
  | 0, _ => rfl
  | k + 1, P => by
    rw [pl_loop_s]
    split
    · split
      · split
        · split
          · rw [k6_pl k, zk_go (by decide) (by decide) (by decide)]; exact k6_one
          · rw [zk_sign (by decide) (by decide) (by decide)]; exact k6_one
        · exact k6_one
      · exact zk_wrong (by decide) (by decide)
    · exact zk_syntax (by decide) (by decide) (by decide)
theorem k6_chpl {ob : Bool} {X : PS} : (ch_pl tv nv ob X).1 6 = X.1 6 := by
  unfold ch_pl; split
  · exact k6_pl _ _
  · rfl
theorem k6_lk9 {R : PS} : (lk_end (lk10 (lk9 tv nv R))).1 6 = R.1 6 := by
  show (sp_range tv nv (sp_go R)).1 6 = R.1 6
  rw [zk_range (by decide) (by decide) (by decide) (by decide) (by decide), zk_go (by decide) (by decide) (by decide)]
theorem k6_nm {R : PS} : (lk_nm ft tv nv R).1 6 = R.1 6 := by
  have h7 : (lk7 R).1 6 = R.1 6 := zk_room (by decide) (by decide) (by decide)
  unfold lk_nm
  split
  · split
    · exact h7
    · rw [k6_lk9]; exact h7
  · exact k6_lk9
theorem k6_rt {Q : PS} : (lk_rt ft tv nv Q).1 6 = Q.1 6 := by
  unfold lk_rt
  split
  · show (sp_go Q).1 6 = _; exact zk_go (by decide) (by decide) (by decide)
  · split
    · rw [k6_nm]; rfl
    · show (sp_syntax Q).1 6 = _; exact zk_syntax (by decide) (by decide) (by decide)
theorem k6_link {P : PS} : (sp_link ft tv nv P).1 6 = P.1 6 := by
  have h5 : (lk5 tv nv P).1 6 = P.1 6 := zk_lk5 (by decide) (by decide) (by decide) (by decide) (by decide)
  unfold sp_link
  split
  · exact zk_name (by decide) (by decide) (by decide)
  · split
    · exact h5
    · rw [k6_rt]; exact h5
theorem k6_pt : ∀ (k : Nat) (P : PS), (pt_loop ft tv nv k P).1 6 = P.1 6
  | 0, _ => rfl
  | k + 1, P => by
    rw [pt_loop_s]
    split
    · split
      · rw [k6_pt k, zk_go (by decide) (by decide) (by decide)]; exact k6_link
      · exact k6_link
    · rfl
theorem k6_part {P : PS} : (sp_part ft tv nv P).1 6 = P.1 6 := by
  have h1 : (pt1 P).1 6 = P.1 6 := zk_room (by decide) (by decide) (by decide)
  unfold sp_part
  split
  · split
    · exact h1
    · rw [zk_sign (by decide) (by decide) (by decide), zk_sign (by decide) (by decide) (by decide), k6_pt]
      show (sp_sign tv (nI 40) (sp_go (pt2 (pt1 P)))).1 6 = P.1 6
      rw [zk_sign (by decide) (by decide) (by decide), zk_go (by decide) (by decide) (by decide)]
      exact h1
  · exact zk_syntax (by decide) (by decide) (by decide)
theorem k6_chl : ∀ (k : Nat) (P : PS), (ch_loop ft tv nv k P).1 6 = P.1 6
  | 0, _ => rfl
  | k + 1, P => by
    rw [ch_loop_s]
    split
    · rw [k6_chl k]; exact k6_part
    · rfl
theorem k6_chip {P : PS} : (sp_chip ft tv nv P).1 6 = P.1 6 := by
  have h1 : (ch1 tv P).1 6 = P.1 6 := zk_word (by decide) (by decide) (by decide)
  have h2 : (ch2 tv P).1 6 = P.1 6 := by
    unfold ch2; split
    · rw [zk_syntax (by decide) (by decide) (by decide)]; exact h1
    · exact h1
  have h3 : (ch3 tv P).1 6 = P.1 6 := by
    unfold ch3; split
    · rw [zk_room (by decide) (by decide) (by decide)]; exact h2
    · exact h2
  have h7 : ∀ R : PS, (ch7 tv nv R).1 6 = R.1 6 := fun R => by
    unfold ch7
    rw [zk_sign (by decide) (by decide) (by decide), zk_word (by decide) (by decide) (by decide), k6_chpl]
    unfold ch6
    rw [zk_word (by decide) (by decide) (by decide), k6_chpl]
    unfold ch5
    rw [zk_word (by decide) (by decide) (by decide), zk_sign (by decide) (by decide) (by decide), zk_go (by decide) (by decide) (by decide)]
    rfl
  unfold sp_chip
  split
  · exact h3
  · rw [zk_sign (by decide) (by decide) (by decide), k6_chl, h7]; exact h3
theorem k6_tt : ∀ (k : Nat) (P : PS), (tt_loop ft tv nv k P).1 6 = P.1 6
  | 0, _ => rfl
  | k + 1, P => by
    rw [tt_loop_s]
    split
    · split
      · exact k6_chip
      · rw [k6_tt k]; exact k6_chip
    · rfl
theorem k6_texts {P : PS} : (sp_texts ft tv nv P).1 6 = P.1 6 := by
  show (tt_loop ft tv nv 1002 (tt0 P)).1 6 = P.1 6
  rw [k6_tt]; rfl
end K3
/-! The rows of tokens stay while chips are parsed -/
section R7
variable {ft tv : Nat → Int32} {nv : Nat → Nat} {k : Nat}
theorem rw_ars {P : PS} {r i v : Nat} (h : k ≠ r) : (ars P r i v).2.2.1 k = P.2.2.1 k := if_neg h
theorem r7_put (hk : k < 16) {ob : Bool} {P : PS} : (pl_put ob P).2.2.1 k = P.2.2.1 k := by
  unfold pl_put
  rw [rw_ars (by omega)]
  show (ars P 20 (P.1 18) (P.1 12)).2.2.1 k = _
  exact rw_ars (by omega)
theorem r7_one (hk : k < 16) {ob : Bool} {P : PS} : (pl_one tv nv ob P).2.2.1 k = P.2.2.1 k := by
  have h1 : (pl_q1 ob P).2.2.1 k = P.2.2.1 k := r7_put hk
  have h2 : (pl_q2 ob P).2.2.1 k = P.2.2.1 k := by unfold pl_q2; rw [ar_number]; exact h1
  have h3 : (pl_q3 tv ob P).2.2.1 k = P.2.2.1 k := by unfold pl_q3; rw [ar_sign]; exact h2
  have h4 : (pl_q4 tv nv ob P).2.2.1 k = P.2.2.1 k := by unfold pl_q4; rw [rw_ars (by omega)]; exact h3
  unfold pl_one
  split
  · split
    · exact h4
    · exact h3
  · exact h1
theorem r7_pl (hk : k < 16) {ob : Bool} : ∀ (n : Nat) (P : PS), (pl_loop tv nv ob n P).2.2.1 k = P.2.2.1 k
  | 0, _ => rfl
  | n + 1, P => by
    rw [pl_loop_s]
    split
    · split
      · split
        · split
          · rw [r7_pl hk n]; exact r7_one hk
          · rw [ar_sign]; exact r7_one hk
        · exact r7_one hk
      · rw [ar_wrong]
    · rw [ar_syntax]
theorem r7_chpl (hk : k < 16) {ob : Bool} {X : PS} : (ch_pl tv nv ob X).2.2.1 k = X.2.2.1 k := by
  unfold ch_pl; split
  · exact r7_pl hk _ _
  · rfl
theorem r7_lk9 (hk : k < 16) {R : PS} : (lk_end (lk10 (lk9 tv nv R))).2.2.1 k = R.2.2.1 k := by
  show (lk10 (lk9 tv nv R)).2.2.1 k = _
  unfold lk10
  rw [rw_ars (by omega), rw_ars (by omega)]
  show (lk9 tv nv R).2.2.1 k = _
  unfold lk9
  rw [ar_range]; rfl
theorem r7_nm (hk : k < 16) {R : PS} : (lk_nm ft tv nv R).2.2.1 k = R.2.2.1 k := by
  have h7 : (lk7 R).2.2.1 k = R.2.2.1 k := by unfold lk7; rw [ar_room]
  unfold lk_nm
  split
  · split
    · exact h7
    · rw [r7_lk9 hk]
      show (ars (lk7 R) 38 ((lk7 R).1 37) ((lk7 R).1 12)).2.2.1 k = _
      rw [rw_ars (by omega)]; exact h7
  · exact r7_lk9 hk
theorem r7_rt (hk : k < 16) {Q : PS} : (lk_rt ft tv nv Q).2.2.1 k = Q.2.2.1 k := by
  unfold lk_rt
  split
  · rfl
  · split
    · rw [r7_nm hk]; unfold lkr; rw [rw_ars (by omega), rw_ars (by omega)]
    · show (sp_syntax Q).2.2.1 k = _; rw [ar_syntax]
theorem r7_link (hk : k < 16) {P : PS} : (sp_link ft tv nv P).2.2.1 k = P.2.2.1 k := by
  have h5 : (lk5 tv nv P).2.2.1 k = P.2.2.1 k := ar_lk5 (by omega) (by omega) (by omega)
  unfold sp_link
  split
  · rw [ar_name]
  · split
    · exact h5
    · rw [r7_rt hk]
      show (ars (lk5 tv nv P) 32 ((lk5 tv nv P).1 27) ((lk5 tv nv P).1 12)).2.2.1 k = _
      rw [rw_ars (by omega)]; exact h5
theorem r7_pt (hk : k < 16) : ∀ (n : Nat) (P : PS), (pt_loop ft tv nv n P).2.2.1 k = P.2.2.1 k
  | 0, _ => rfl
  | n + 1, P => by
    rw [pt_loop_s]
    split
    · split
      · rw [r7_pt hk n]; exact r7_link hk
      · exact r7_link hk
    · rfl
theorem r7_part (hk : k < 16) {P : PS} : (sp_part ft tv nv P).2.2.1 k = P.2.2.1 k := by
  have h1 : (pt1 P).2.2.1 k = P.2.2.1 k := by unfold pt1; rw [ar_room]
  unfold sp_part
  split
  · split
    · exact h1
    · rw [ar_sign, ar_sign, r7_pt hk]
      unfold pt3
      rw [ar_sign]
      show (pt2 (pt1 P)).2.2.1 k = _
      unfold pt2
      show (ars (ars (pt1 P) 25 ((pt1 P).1 24) ((pt1 P).1 12)) 26 ((pt1 P).1 24) ((pt1 P).1 27)).2.2.1 k = _
      rw [rw_ars (by omega), rw_ars (by omega)]; exact h1
  · rw [ar_syntax]
theorem r7_chl (hk : k < 16) : ∀ (n : Nat) (P : PS), (ch_loop ft tv nv n P).2.2.1 k = P.2.2.1 k
  | 0, _ => rfl
  | n + 1, P => by
    rw [ch_loop_s]
    split
    · rw [r7_chl hk n]; exact r7_part hk
    · rfl
theorem r7_chip (hk : k < 16) {P : PS} : (sp_chip ft tv nv P).2.2.1 k = P.2.2.1 k := by
  have h1 : (ch1 tv P).2.2.1 k = P.2.2.1 k := by unfold ch1; rw [ar_word]
  have h2 : (ch2 tv P).2.2.1 k = P.2.2.1 k := by
    unfold ch2; split
    · rw [ar_syntax]; exact h1
    · exact h1
  have h3 : (ch3 tv P).2.2.1 k = P.2.2.1 k := by
    unfold ch3; split
    · rw [ar_room]; exact h2
    · exact h2
  have h7 : ∀ R : PS, (ch7 tv nv R).2.2.1 k = R.2.2.1 k := fun R => by
    unfold ch7
    rw [ar_sign, ar_word, r7_chpl hk]
    unfold ch6
    rw [ar_word, r7_chpl hk]
    unfold ch5
    rw [ar_word, ar_sign]
    show (ch4 R).2.2.1 k = _
    unfold ch4
    show (ars (ars (ars (ars R 16 (R.1 15) (R.1 12)) 17 (R.1 15) (R.1 18)) 23 (R.1 15) (R.1 24)) 36 (R.1 15) (R.1 37)).2.2.1 k = _
    have z1 : (ars R 16 (R.1 15) (R.1 12)).2.2.1 k = R.2.2.1 k := if_neg (by omega)
    rw [rw_ars (by omega), rw_ars (by omega), rw_ars (by omega)]; exact z1
  unfold sp_chip
  split
  · exact h3
  · rw [ar_sign, r7_chl hk, h7]; exact h3
theorem r7_tt (hk : k < 16) : ∀ (n : Nat) (P : PS), (tt_loop ft tv nv n P).2.2.1 k = P.2.2.1 k
  | 0, _ => rfl
  | n + 1, P => by
    rw [tt_loop_s]
    split
    · split
      · exact r7_chip hk
      · rw [r7_tt hk n]; exact r7_chip hk
    · rfl
theorem r7_texts (hk : k < 16) {P : PS} : (sp_texts ft tv nv P).2.2.1 k = P.2.2.1 k := by
  unfold sp_texts tt_end
  rw [rw_ars (by omega), rw_ars (by omega), rw_ars (by omega), rw_ars (by omega), r7_tt hk]; rfl
end R7
/-! The place of a fault that the parser finds is in the text -/
section B14
variable {ft tv : Nat → Int32} {nv : Nat → Nat}
def b14 (P : PS) : Prop := P.1 14 < 2 ^ 31 ∧ ∀ t, P.2.2.1 8 t ≤ 2000
theorem b14.of {P X : PS} (h : b14 P) (e : X.1 14 = P.1 14) (e8 : X.2.2.1 8 = P.2.2.1 8) : b14 X := ⟨by rw [e]; exact h.1, fun t => by rw [e8]; exact h.2 t⟩
theorem b14.ars {P : PS} (h : b14 P) {r i v : Nat} (hr : 8 ≠ r) : b14 (ars P r i v) := h.of rfl (rw_ars hr)
theorem b14.zs {P : PS} (h : b14 P) {k v : Nat} (hk : 14 ≠ k) : b14 (zs P k v) := h.of (if_neg hk) rfl
theorem b14.wrong {P : PS} (h : b14 P) {nb t : Nat} : b14 (sp_wrong nb t P) := by
  unfold sp_wrong; split
  · exact h
  · refine ⟨?_, h.2⟩
    show P.2.2.1 8 t < 2 ^ 31
    have := h.2 t; omega
theorem b14.syn {P : PS} (h : b14 P) : b14 (sp_syntax P) := h.wrong
theorem b14.go {P : PS} (h : b14 P) : b14 (sp_go P) := h.zs (by decide)
theorem b14.sign {P : PS} (h : b14 P) {c : Int32} : b14 (sp_sign tv c P) := by unfold sp_sign; split; exact h.go; exact h.syn
theorem b14.word {P : PS} (h : b14 P) {c : Int32} : b14 (sp_word tv c P) := by unfold sp_word; split; exact h.go; exact h.syn
theorem b14.name {P : PS} (h : b14 P) : b14 (sp_name P) := by unfold sp_name; split; exact h.go; exact h.syn
theorem b14.num {P : PS} (h : b14 P) : b14 (sp_number P) := by unfold sp_number; split; exact h.go; exact h.syn
theorem b14.room {P : PS} (h : b14 P) {a b t : Nat} : b14 (sp_room a b t P) := by unfold sp_room; split; exact h; exact h.wrong
theorem b14.r0 {P : PS} (h : b14 P) : b14 (sp_range0 P) := h.of rfl rfl
theorem b14.range {P : PS} (h : b14 P) : b14 (sp_range tv nv P) := by
  have h1 : b14 (sp_range1 P) := by
    unfold sp_range1
    exact (b14.go (P := os (sp_range0 P) 41 (some (P.1 12))) (h.r0.of rfl rfl)).num
  have h2 : b14 (sp_range2 tv P) := by unfold sp_range2; split; exact h1.go.num; exact h1
  have h3 : b14 (sp_range3 tv P) := h2.sign
  unfold sp_range
  split
  · split
    · exact (h3.zs (by decide)).zs (by decide)
    · exact h3
  · exact h.r0
theorem b14.one {P : PS} (h : b14 P) {ob : Bool} : b14 (pl_one tv nv ob P) := by
  have hp : b14 (pl_put ob P) := h.of rfl (r7_put (by decide))
  have h1 : b14 (pl_q1 ob P) := hp.go
  have h2 : b14 (pl_q2 ob P) := h1.go.num
  have h3 : b14 (pl_q3 tv ob P) := b14.sign (P := aos (pl_q2 ob P) 22 ((sp_go (pl_q1 ob P)).1 18) (some ((pl_q2 ob P).1 12 - 1))) (h2.of rfl rfl)
  have h4 : b14 (pl_q4 tv nv ob P) := h3.ars (by decide)
  unfold pl_one
  split
  · split
    · exact h4.zs (by decide)
    · exact h3
  · exact h1.zs (by decide)
theorem b14_pl {ob : Bool} : ∀ (n : Nat) (P : PS), b14 P → b14 (pl_loop tv nv ob n P)
  | 0, _, h => h
  | n + 1, P, h => by
    rw [pl_loop_s]
    split
    · split
      · split
        · split
          · exact b14_pl n _ h.one.go
          · exact h.one.sign
        · exact h.one
      · exact h.wrong
    · exact h.syn
theorem b14.chpl {P : PS} (h : b14 P) {ob : Bool} : b14 (ch_pl tv nv ob P) := by
  unfold ch_pl; split
  · exact b14_pl _ _ h
  · exact h
theorem b14.l9 {R : PS} (h : b14 R) : b14 (lk_end (lk10 (lk9 tv nv R))) := by
  have h1 : b14 (lk9 tv nv R) := h.go.range
  have h2 : b14 (lk10 (lk9 tv nv R)) := by
    unfold lk10
    exact (b14.ars (P := aos (lk9 tv nv R) 33 ((lk9 tv nv R).1 27) ((lk9 tv nv R).2.1 41)) (h1.of rfl rfl) (by decide)).ars (by decide)
  exact h2.zs (by decide)
theorem b14.nm {R : PS} (h : b14 R) : b14 (lk_nm ft tv nv R) := by
  have h7 : b14 (lk7 R) := h.room
  unfold lk_nm
  split
  · split
    · exact h7
    · exact ((h7.ars (by decide)).zs (by decide)).l9
  · exact h.l9
theorem b14.rt {Q : PS} (h : b14 Q) : b14 (lk_rt ft tv nv Q) := by
  unfold lk_rt
  split
  · exact h.go.zs (by decide)
  · split
    · exact ((h.ars (by decide)).ars (by decide)).nm
    · exact h.syn.zs (by decide)
theorem b14.link {P : PS} (h : b14 P) : b14 (sp_link ft tv nv P) := by
  have h2 : b14 (lk2 P) := h.name.ars (by decide)
  have h3 : b14 (lk3 tv nv P) := h2.range
  have h4 : b14 (lk4 (lk3 tv nv P)) := by
    unfold lk4
    exact (b14.ars (P := aos (lk3 tv nv P) 29 ((lk3 tv nv P).1 27) ((lk3 tv nv P).2.1 41)) (h3.of rfl rfl) (by decide)).ars (by decide)
  have h5 : b14 (lk5 tv nv P) := h4.sign
  unfold sp_link
  split
  · exact h.name
  · split
    · exact h5
    · exact b14.rt (Q := lk6 (lk5 tv nv P)) ((h5.ars (by decide) (r := 32) (i := (lk5 tv nv P).1 27) (v := (lk5 tv nv P).1 12)).of rfl rfl)
theorem b14_pt : ∀ (n : Nat) (P : PS), b14 P → b14 (pt_loop ft tv nv n P)
  | 0, _, h => h
  | n + 1, P, h => by
    rw [pt_loop_s]
    split
    · split
      · exact b14_pt n _ h.link.go
      · exact h.link
    · exact h
theorem b14.part {P : PS} (h : b14 P) : b14 (sp_part ft tv nv P) := by
  have h1 : b14 (pt1 P) := h.room
  unfold sp_part
  split
  · split
    · exact h1
    · have h2 : b14 (pt2 (pt1 P)) := ((h1.ars (by decide)).ars (by decide)).zs (by decide)
      have h3 : b14 (pt3 tv (pt1 P)) := h2.go.sign
      exact (b14_pt _ _ h3).sign.sign
  · exact h.syn
theorem b14_chl : ∀ (n : Nat) (P : PS), b14 P → b14 (ch_loop ft tv nv n P)
  | 0, _, h => h
  | n + 1, P, h => by
    rw [ch_loop_s]
    split
    · exact b14_chl n _ h.part
    · exact h
theorem b14.chip {P : PS} (h : b14 P) : b14 (sp_chip ft tv nv P) := by
  have h1 : b14 (ch1 tv P) := h.word
  have h2 : b14 (ch2 tv P) := by unfold ch2; split; exact h1.syn; exact h1
  have h3 : b14 (ch3 tv P) := by unfold ch3; split; exact h2.room; exact h2
  unfold sp_chip
  split
  · exact h3
  · have h4 : b14 (ch4 (ch3 tv P)) := ((((h3.ars (by decide)).ars (by decide)).ars (by decide)).ars (by decide)).zs (by decide)
    have h5 : b14 (ch5 tv (ch3 tv P)) := h4.go.sign.word
    have h6 : b14 (ch6 tv nv (ch3 tv P)) := h5.chpl.word
    have h7 : b14 (ch7 tv nv (ch3 tv P)) := h6.chpl.word.sign
    exact (b14_chl _ _ h7).sign
theorem b14_tt : ∀ (n : Nat) (P : PS), b14 P → b14 (tt_loop ft tv nv n P)
  | 0, _, h => h
  | n + 1, P, h => by
    rw [tt_loop_s]
    split
    · split
      · exact h.chip
      · exact b14_tt n _ h.chip
    · exact h
theorem b14_texts {P : PS} (h : b14 P) : b14 (sp_texts ft tv nv P) := by
  have h0 : b14 (tt0 P) := (((((h.zs (by decide)).zs (by decide)).zs (by decide)).zs (by decide)).zs (by decide)).zs (by decide)
  have hx := b14_tt (ft := ft) (tv := tv) (nv := nv) 1002 _ h0
  exact (((hx.ars (by decide)).ars (by decide)).ars (by decide)).ars (by decide)
end B14
