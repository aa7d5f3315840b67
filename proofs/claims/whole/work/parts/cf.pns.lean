/-! How many tokens a text has; the pins of the board's chip -/
theorem put_le {S : TS} {n ki a e : Nat} {vi : Int32} (h : ∀ u, u < S.1 → S.2.2.1 u ≤ n) (ha : a ≤ n) : ∀ u, u < S.1 + 1 → (m_tok S ki a e vi).2.2.1 u ≤ n := fun u hu => by
  have up : (m_tok S ki a e vi).2.2.1 u = if u = S.1 then a else S.2.2.1 u := rfl
  rw [up]; split
  · exact ha
  · exact h u (by omega)
theorem scan_le {b ft : Nat → Int32} {n : Nat} {cw : Nat → Int32} {RR : Nat} (h : rb b ft n) (hn : n ≤ 2000) (hc : rw_ cw RR 0 kwl) (hR : 6 ≤ RR) :
    ∀ (k i : Nat) (S : TS), S.1 + k = 1001 → 0 < k → i ≤ n → (∀ u, u < S.1 → S.2.2.1 u ≤ n) → ∀ u, u < (m_tkz ft n cw RR k (m_skip ft n n i) S).1 → (m_tkz ft n cw RR k (m_skip ft n n i) S).2.2.1 u ≤ n
  | 0, i, S, _, h0, _, _ => absurd h0 (Nat.lt_irrefl 0)
  | k + 1, i, S, hk, _, hi, hle => by
    obtain ⟨hs, hsn⟩ := rb_skip h n i hi (by omega)
    generalize tx_skip b n n i = a at *
    rcases hs with hs | ⟨hs, hl, h47⟩
    · rw [hs]
      rcases Nat.lt_or_ge a n with han | han
      · rcases tok_eq (S := S) (i := a) h hn han hc hR with ⟨ki, e, vi, g1, g2, g3, g4, -, -, -⟩ | ⟨g1, g2⟩
        · have p := put_le (ki := ki) (e := e) (vi := vi) hle (Nat.le_of_lt han)
          by_cases h1000 : 1000 < S.1 + 1
          · rw [m_tkz_o hn han g1 h1000]
            exact p
          · rw [m_tkz_m hn han g1 h1000]
            exact scan_le h hn hc hR k e (m_tok S ki a e vi) (by show S.1 + 1 + k = 1001; omega) (by omega) (by omega) p
        · rw [m_tkz_b hn han g1]; exact put_le hle (Nat.le_of_lt han)
      · rw [m_tkz_e hn (by omega) han]
        exact put_le hle (Nat.le_refl n)
    · rw [hs, m_tkz_n hn hl]; exact put_le hle (Nat.le_of_lt hl)
theorem tinc_ge {T : Nat} {f : Nat → Nat} (h : tinc T f) : ∀ u, u ≤ T → u ≤ f u
  | 0, _ => Nat.zero_le _
  | u + 1, hu => by
    have := tinc_ge h u (by omega)
    have := h u (u + 1) (by omega) hu
    omega
theorem mbp_in {po : Nat → Bool} {m : Nat} : ∀ k i n, (∀ j, i ≤ j → j < i + k → po j = decide (m ≤ j)) → m_bp po false k i n = if i + n < m ∧ n < k then some (i + n) else none
  | 0, i, n, _ => by rw [if_neg (show ¬ (i + n < m ∧ n < 0) by omega)]; rfl
  | k + 1, i, n, h => by
    have h0 := h i (Nat.le_refl _) (by omega)
    have r := fun n' => mbp_in (m := m) k (i + 1) n' (fun j a b => h j (by omega) (by omega))
    show (if po i = false then (if n = 0 then some i else m_bp po false k (i + 1) (n - 1)) else m_bp po false k (i + 1) n) = _
    by_cases z : m ≤ i
    · rw [if_neg (show ¬ po i = false by rw [h0, decide_eq_true z]; decide), r, if_neg (show ¬ (i + 1 + n < m ∧ n < k) by omega), if_neg (show ¬ (i + n < m ∧ n < k + 1) by omega)]
    · rw [if_pos (show po i = false by rw [h0]; exact decide_eq_false z)]
      by_cases e : n = 0
      · rw [if_pos e, if_pos (show i + n < m ∧ n < k + 1 by omega)]; exact congrArg some (by omega)
      · rw [if_neg e, r]
        by_cases q : i + n < m ∧ n < k + 1
        · rw [if_pos (show i + 1 + (n - 1) < m ∧ n - 1 < k by omega), if_pos q]; exact congrArg some (by omega)
        · rw [if_neg (show ¬ (i + 1 + (n - 1) < m ∧ n - 1 < k) by omega), if_neg q]
theorem mbp_out {po : Nat → Bool} {m : Nat} : ∀ k i n, (∀ j, i ≤ j → j < i + k → po j = decide (m ≤ j)) → m_bp po true k i n = if n + (m - i) < k then some (i + (m - i) + n) else none
  | 0, i, n, _ => by rw [if_neg (show ¬ (n + (m - i) < 0) by omega)]; rfl
  | k + 1, i, n, h => by
    have h0 := h i (Nat.le_refl _) (by omega)
    have r := fun n' => mbp_out (m := m) k (i + 1) n' (fun j a b => h j (by omega) (by omega))
    show (if po i = true then (if n = 0 then some i else m_bp po true k (i + 1) (n - 1)) else m_bp po true k (i + 1) n) = _
    by_cases z : m ≤ i
    · rw [if_pos (h0.trans (decide_eq_true z))]
      by_cases e : n = 0
      · rw [if_pos e, if_pos (show n + (m - i) < k + 1 by omega)]; exact congrArg some (by omega)
      · rw [if_neg e, r]
        by_cases q : n + (m - i) < k + 1
        · rw [if_pos (show n - 1 + (m - (i + 1)) < k by omega), if_pos q]; exact congrArg some (by omega)
        · rw [if_neg (show ¬ (n - 1 + (m - (i + 1)) < k) by omega), if_neg q]
    · rw [if_neg (show ¬ po i = true by rw [h0, decide_eq_false z]; decide), r]
      by_cases q : n + (m - i) < k + 1
      · rw [if_pos (show n + (m - (i + 1)) < k by omega), if_pos q]; exact congrArg some (by omega)
      · rw [if_neg (show ¬ (n + (m - (i + 1)) < k) by omega), if_neg q]
theorem mcp_io {po : Nat → Bool} {m : Nat} : ∀ k i n, (∀ j, i ≤ j → j < i + k → po j = decide (m ≤ j)) → m_cp po false k i n = n + min k (m - i) ∧ m_cp po true k i n = n + (k - (m - i))
  | 0, i, n, _ => ⟨by show n = _; omega, by show n = _; omega⟩
  | k + 1, i, n, h => by
    have h0 := h i (Nat.le_refl _) (by omega)
    have r := fun n' => mcp_io (m := m) k (i + 1) n' (fun j a b => h j (by omega) (by omega))
    show m_cp po false k (i + 1) (if po i = false then n + 1 else n) = _ ∧ m_cp po true k (i + 1) (if po i = true then n + 1 else n) = _
    rw [(r _).1, (r _).2]
    by_cases z : m ≤ i
    · have e : po i = true := h0.trans (decide_eq_true z)
      rw [if_neg (show ¬ po i = false by rw [e]; decide), if_pos e]; exact ⟨by omega, by omega⟩
    · have e : po i = false := h0.trans (decide_eq_false z)
      rw [if_pos e, if_neg (show ¬ po i = true by rw [e]; decide)]; exact ⟨by omega, by omega⟩
/-- the pins of the board's chip: the class's list, the reference's rows -/
def PNS (t0 : Nat) (G : PG) (ct ip : Nat) (xs : List Nat) (pf pw : Nat → Nat) (po : Nat → Bool) (c0 : Nat) : Prop :=
  G.1 ct = 6 ∧ G.2.1 ct 6 = ip ∧ (∃ pl, G.2.2.2.2.2 ct 3 = some pl ∧ LSx t0 G pl xs) ∧ pf c0 ≤ pf (c0 + 1) ∧ xs.length = pf (c0 + 1) - pf c0 ∧ ip ≤ xs.length ∧ xs.length ≤ 16 ∧
  (∀ i, i < xs.length → ∃ a, xs[i]? = some a ∧ G.1 a = 2 ∧ G.2.1 a 2 = pw (pf c0 + i) ∧ G.2.1 a 4 = m_psum pw i (pf c0) 0) ∧
  (∀ j, pf c0 ≤ j → j < pf c0 + xs.length → po j = decide (pf c0 + ip ≤ j)) ∧ ∀ i, i < xs.length → 1 ≤ pw (pf c0 + i) ∧ pw (pf c0 + i) ≤ 16
section PNX
variable {t0 : Nat} {G : PG} {ct ip : Nat} {xs : List Nat} {pf pw : Nat → Nat} {po : Nat → Bool} {c0 : Nat}
theorem PNS.inn (h : PNS t0 G ct ip xs pf pw po c0) (x : Int32) : (sIn ip xs x = none ∧ bpin true pf po c0 false x = none) ∨ ∃ a i, i < ip ∧ sIn ip xs x = some a ∧ bpin true pf po c0 false x = some (pf c0 + i) ∧ G.1 a = 2 ∧ G.2.1 a 2 = pw (pf c0 + i) ∧ G.2.1 a 4 = m_psum pw i (pf c0) 0 := by
  obtain ⟨-, -, -, p4, p5, p6, p7, p8, p9, p10⟩ := h
  unfold sIn bpin
  by_cases z : x < 0
  · exact Or.inl ⟨if_neg (fun q => q.1 z), if_neg (fun q => q.2 z)⟩
  · have e2 := mbp_in (po := po) (m := pf c0 + ip) (pf (c0 + 1) - pf c0) (pf c0) x.toNatClampNeg (fun j a b => p9 j a (by rw [p5]; exact b))
    rw [if_pos (show true = true ∧ ¬ x < 0 from ⟨rfl, z⟩), e2]
    by_cases q : x.toNatClampNeg < ip
    · obtain ⟨a, a1, a2, a3, a4⟩ := p8 x.toNatClampNeg (by omega)
      exact Or.inr ⟨a, x.toNatClampNeg, q, by rw [if_pos (show ¬ x < 0 ∧ x.toNatClampNeg < ip from ⟨z, q⟩)]; exact a1, if_pos (show pf c0 + x.toNatClampNeg < pf c0 + ip ∧ x.toNatClampNeg < pf (c0 + 1) - pf c0 by omega), a2, a3, a4⟩
    · exact Or.inl ⟨if_neg (fun w => q w.2), if_neg (show ¬ (pf c0 + x.toNatClampNeg < pf c0 + ip ∧ x.toNatClampNeg < pf (c0 + 1) - pf c0) by omega)⟩
theorem PNS.out (h : PNS t0 G ct ip xs pf pw po c0) (x : Int32) : (sOut ip xs x = none ∧ bpin true pf po c0 true x = none) ∨ ∃ a i, i < xs.length ∧ sOut ip xs x = some a ∧ bpin true pf po c0 true x = some (pf c0 + i) ∧ G.1 a = 2 ∧ G.2.1 a 2 = pw (pf c0 + i) ∧ G.2.1 a 4 = m_psum pw i (pf c0) 0 := by
  obtain ⟨-, -, -, p4, p5, p6, p7, p8, p9, p10⟩ := h
  unfold sOut bpin
  by_cases z : x < 0
  · exact Or.inl ⟨if_neg (fun q => q.1 z), if_neg (fun q => q.2 z)⟩
  · have e2 := mbp_out (po := po) (m := pf c0 + ip) (pf (c0 + 1) - pf c0) (pf c0) x.toNatClampNeg (fun j a b => p9 j a (by rw [p5]; exact b))
    rw [if_pos (show true = true ∧ ¬ x < 0 from ⟨rfl, z⟩), e2]
    by_cases q : x.toNatClampNeg < xs.length - ip
    · obtain ⟨a, a1, a2, a3, a4⟩ := p8 (ip + x.toNatClampNeg) (by omega)
      exact Or.inr ⟨a, ip + x.toNatClampNeg, by omega, by rw [if_pos (show ¬ x < 0 ∧ x.toNatClampNeg < xs.length - ip from ⟨z, q⟩)]; exact a1, by rw [if_pos (show x.toNatClampNeg + (pf c0 + ip - pf c0) < pf (c0 + 1) - pf c0 by omega)]; exact congrArg some (by omega), a2, a3, a4⟩
    · exact Or.inl ⟨if_neg (fun w => q w.2), if_neg (show ¬ (x.toNatClampNeg + (pf c0 + ip - pf c0) < pf (c0 + 1) - pf c0) by omega)⟩
theorem PNS.cnt (h : PNS t0 G ct ip xs pf pw po c0) : m_cp po false (pf (c0 + 1) - pf c0) (pf c0) 0 = ip ∧ m_cp po true (pf (c0 + 1) - pf c0) (pf c0) 0 = xs.length - ip := by
  obtain ⟨-, -, -, p4, p5, p6, p7, p8, p9, p10⟩ := h
  obtain ⟨e1, e2⟩ := mcp_io (po := po) (m := pf c0 + ip) (pf (c0 + 1) - pf c0) (pf c0) 0 (fun j a b => p9 j a (by rw [p5]; exact b))
  rw [e1, e2]; exact ⟨by omega, by omega⟩
end PNX
section PNO
variable {t0 qc qna qdf : Nat} {ft tv gw gp : Nat → Int32} {nv : Nat → Nat} {T : Nat} {fk : Nat → Int32} {pp nn : Nat → Nat} {fh fl : Nat → Int64} {G : PG} {ad : Nat → Nat → Nat} {tg : Nat → Nat × Nat} {P S : PS} {L : List Nat} {c : Nat}
theorem PNS_of (ck : CKB t0 qc qna qdf ft tv gp fh fl pp nn ad tg P L G S (P.1 15)) (h : KC ft tv gw gp nv T fk pp nn fh fl P) (h8 : P8 P) (hc : c < P.1 15) : PNS t0 G (ad 0 c) (icn (P.2.2.2.2 19) (P.2.2.1 17 c) (P.2.2.1 17 (c + 1) - P.2.2.1 17 c)) (rga (ad 5) (P.2.2.1 17 c) (P.2.2.1 17 (c + 1))) (P.2.2.1 17) (P.2.2.1 21) (P.2.2.2.2 19) c ∧
    inw S (c + 2) = m_psum (P.2.2.1 21) (icn (P.2.2.2.2 19) (P.2.2.1 17 c) (P.2.2.1 17 (c + 1) - P.2.2.1 17 c)) (P.2.2.1 17 c) 0 ∧ m_psum (P.2.2.1 21) (rga (ad 5) (P.2.2.1 17 c) (P.2.2.1 17 (c + 1))).length (P.2.2.1 17 c) 0 ≤ ow S c := by
  obtain ⟨hR, wb, hL, hk, rs, fr, g4, ofc, gv, hs, lo⟩ := ck
  obtain ⟨a1, -, a3, -⟩ := hR.2.2.2.2.1 c hc
  have b := h.p17 hc
  have b8 := h8 c hc
  have il := icn_le (P.2.2.2.2 19) (P.2.2.1 17 c) (P.2.2.1 17 (c + 1) - P.2.2.1 17 c)
  have io := icn_io (f := P.2.2.2.2 19) (a := P.2.2.1 17 c) (P.2.2.1 17 (c + 1) - P.2.2.1 17 c) (fun p p' x y z e => h.2.2.1.1.1.po c p p' hc x y (by omega) (fun _ => by omega) e)
  refine ⟨⟨a1.1, a1.2.2.2.2.2.2.2, ⟨ad 2 c, a1.2.2.2.2.1, a3⟩, by omega, rga_len _ _ _, by rw [rga_len]; exact il, by rw [rga_len]; omega, fun i hi => ?_, fun j j1 j2 => ?_, fun i hi => ?_⟩, ?_, ?_⟩
  · rw [rga_len] at hi
    obtain ⟨v1, -⟩ := hR.2.2.2.2.2.1 (P.2.2.1 17 c + i) (by omega)
    refine ⟨ad 5 (P.2.2.1 17 c + i), rga_get hi, v1.1, v1.2.2.2.1, ?_⟩
    rw [(ofc c hc).1 (P.2.2.1 17 c + i) (by omega) (by omega), Nat.add_sub_cancel_left]
  · rw [rga_len] at j2
    have q := io j j1 (by omega)
    by_cases z : j - P.2.2.1 17 c < icn (P.2.2.2.2 19) (P.2.2.1 17 c) (P.2.2.1 17 (c + 1) - P.2.2.1 17 c)
    · rw [q.mpr z]; exact (decide_eq_false (by omega)).symm
    · rw [eq_true_of_ne_false (fun e => z (q.mp e))]; exact (decide_eq_true (by omega)).symm
  · rw [rga_len] at hi
    have w := h.w21 (P.2.2.1 17 c + i) (by omega)
    exact ⟨by have := w.1; omega, w.2⟩
  · unfold inw
    rw [if_pos (show 1 < c + 2 by omega), show c + 2 - 2 = c by omega, hk.2.1 21 (by decide) (by decide), hk.2.1 17 (by decide) (by decide), hk.2.2.2 19 (by decide)]
  · rw [rga_len, ow_e hk]; exact isum_mono _ _ _
end PNO
