/-! The tokens of both sides are the same: bytes -/
/-- the desk's byte i is the reference's, or both are no sign of a text -/
def rb (b ft : Nat → Int32) (n : Nat) : Prop := ∀ i, i < n → (0 ≤ (ft i).toInt ∧ (ft i).toInt ≤ 255) ∧ ((b i = ft i ∧ (ft i).toInt ≤ 127) ∨ ((b i).toInt < 0 ∧ 127 < (ft i).toInt))
theorem rb_nI {n : Nat} (h : n ≤ 255) : (nI n).toInt = (n : Int) := nI_toInt (by omega)
theorem rb_eq {b ft : Nat → Int32} {n i c : Nat} (h : rb b ft n) (hi : i < n) (hc : c ≤ 127) : b i = nI c ↔ ft i = nI c := by
  obtain ⟨-, ⟨e, -⟩ | ⟨e1, e2⟩⟩ := h i hi
  · rw [e]
  · constructor
    · intro q; rw [q, rb_nI (by omega)] at e1; omega
    · intro q; rw [q, rb_nI (by omega)] at e2; omega
theorem rb_letter {b ft : Nat → Int32} {n i : Nat} (h : rb b ft n) (hi : i < n) : tx_letter (b i) = m_letter (ft i) := by
  obtain ⟨-, ⟨e, -⟩ | ⟨e1, e2⟩⟩ := h i hi
  · rw [e, Bool.eq_iff_iff]
    simp only [tx_letter, m_letter, Bool.or_eq_true, Bool.and_eq_true, Bool.not_eq_true', decide_eq_false_iff_not, decide_eq_true_eq, Int32.lt_iff_toInt_lt, Int32.le_iff_toInt_le, rb_nI (show 65 ≤ 255 by decide), rb_nI (show 90 ≤ 255 by decide), rb_nI (show 97 ≤ 255 by decide), rb_nI (show 122 ≤ 255 by decide)]
    omega
  · rw [Bool.eq_iff_iff]
    simp only [tx_letter, m_letter, Bool.or_eq_true, Bool.and_eq_true, Bool.not_eq_true', decide_eq_false_iff_not, decide_eq_true_eq, Int32.lt_iff_toInt_lt, Int32.le_iff_toInt_le, rb_nI (show 65 ≤ 255 by decide), rb_nI (show 90 ≤ 255 by decide), rb_nI (show 97 ≤ 255 by decide), rb_nI (show 122 ≤ 255 by decide)]
    omega
theorem rb_digit {b ft : Nat → Int32} {n i : Nat} (h : rb b ft n) (hi : i < n) : tx_digit (b i) = tx_digit (ft i) := by
  obtain ⟨-, ⟨e, -⟩ | ⟨e1, e2⟩⟩ := h i hi
  · rw [e]
  · rw [Bool.eq_iff_iff]
    simp only [tx_digit, Bool.or_eq_true, Bool.and_eq_true, Bool.not_eq_true', decide_eq_false_iff_not, decide_eq_true_eq, Int32.lt_iff_toInt_lt, Int32.le_iff_toInt_le, rb_nI (show 48 ≤ 255 by decide), rb_nI (show 57 ≤ 255 by decide)]
    omega
theorem rb_wordb {b ft : Nat → Int32} {n i : Nat} (h : rb b ft n) (hi : i < n) : tx_wordb (b i) = m_wordb (ft i) := by
  unfold tx_wordb m_wordb
  rw [rb_letter h hi, rb_digit h hi, decide_eq_decide.mpr (rb_eq h hi (by decide))]
theorem rb_blank {b ft : Nat → Int32} {n i : Nat} (h : rb b ft n) (hi : i < n) : tx_blank (b i) = tx_blank (ft i) := by
  unfold tx_blank
  rw [decide_eq_decide.mpr (rb_eq (c := 9) h hi (by decide)), decide_eq_decide.mpr (rb_eq (c := 10) h hi (by decide)), decide_eq_decide.mpr (rb_eq (c := 13) h hi (by decide)), decide_eq_decide.mpr (rb_eq (c := 32) h hi (by decide))]
theorem rb_sign {b ft : Nat → Int32} {n i : Nat} (h : rb b ft n) (hi : i < n) : tx_sign (b i) = tx_sign (ft i) := by
  obtain ⟨-, ⟨e, -⟩ | ⟨e1, e2⟩⟩ := h i hi
  · rw [e]
  · have a : ∀ c, c ≤ 127 → ¬ b i = nI c := fun c hc q => by rw [q, rb_nI (by omega)] at e1; omega
    have a' : ∀ c, c ≤ 127 → ¬ ft i = nI c := fun c hc q => by rw [q, rb_nI (by omega)] at e2; omega
    simp only [tx_sign, decide_eq_false (a 40 (by decide)), decide_eq_false (a 41 (by decide)), decide_eq_false (a 44 (by decide)), decide_eq_false (a 58 (by decide)), decide_eq_false (a 59 (by decide)), decide_eq_false (a 61 (by decide)), decide_eq_false (a 91 (by decide)), decide_eq_false (a 93 (by decide)), decide_eq_false (a 123 (by decide)), decide_eq_false (a 125 (by decide)), decide_eq_false (a' 40 (by decide)), decide_eq_false (a' 41 (by decide)), decide_eq_false (a' 44 (by decide)), decide_eq_false (a' 58 (by decide)), decide_eq_false (a' 59 (by decide)), decide_eq_false (a' 61 (by decide)), decide_eq_false (a' 91 (by decide)), decide_eq_false (a' 93 (by decide)), decide_eq_false (a' 123 (by decide)), decide_eq_false (a' 125 (by decide))]
theorem rb_line {b ft : Nat → Int32} {n : Nat} (h : rb b ft n) : ∀ k i, i + k ≤ n → tx_line b k i = tx_line ft k i
  | 0, _, _ => rfl
  | k + 1, i, hk => by
    show (if b i = nI 10 then i else tx_line b k (i + 1)) = (if ft i = nI 10 then i else tx_line ft k (i + 1))
    rw [rb_line h k (i + 1) (by omega)]
    simp only [rb_eq h (show i < n by omega) (show 10 ≤ 127 by decide)]
theorem rb_at {b ft : Nat → Int32} {n i c : Nat} (h : rb b ft n) (hc : c ≤ 127) : (i < n ∧ b i = nI c) ↔ m_at ft n i = nI c := by
  unfold m_at
  by_cases hi : i < n
  · rw [if_pos hi, ← rb_eq h hi hc]; exact ⟨fun q => q.2, fun q => ⟨hi, q⟩⟩
  · rw [if_neg hi]
    constructor
    · exact fun q => absurd q.1 hi
    · intro q
      have := congrArg Int32.toInt q
      rw [rb_nI (by omega)] at this
      have h1 : (-1 : Int32).toInt = -1 := rfl
      omega
theorem rb_com {b ft : Nat → Int32} {n : Nat} (h : rb b ft n) : ∀ k i, i + k = n → tx_com b (n - 1 - i) i = if n ≤ m_com ft n k i then none else some (m_com ft n k i + 2)
  | 0, i, hk => by
    rw [tx_com_u, if_neg (by omega)]
    show none = if n ≤ i then none else some (i + 2)
    rw [if_pos (by omega)]
  | k + 1, i, hk => by
    rw [tx_com_u]
    show _ = if n ≤ (if ft i = nI 42 ∧ m_at ft n (i + 1) = nI 47 then i else m_com ft n k (i + 1)) then none else some ((if ft i = nI 42 ∧ m_at ft n (i + 1) = nI 47 then i else m_com ft n k (i + 1)) + 2)
    have ih := rb_com h k (i + 1) (by omega)
    have hi : i < n := by omega
    by_cases q : ft i = nI 42 ∧ m_at ft n (i + 1) = nI 47
    · have q2 := (rb_at h (by decide)).mpr q.2
      rw [if_pos q2.1, if_pos ⟨(rb_eq h hi (by decide)).mpr q.1, q2.2⟩, if_pos q, if_neg (by omega)]
    · rw [if_neg q, ← ih]
      by_cases q1 : i + 1 < n
      · rw [if_pos q1, if_neg]
        rintro ⟨z1, z2⟩
        exact q ⟨(rb_eq h hi (by decide)).mp z1, (rb_at h (by decide)).mp ⟨q1, z2⟩⟩
      · rw [if_neg q1, tx_com_u, if_neg (by omega)]
theorem tx_line_s (b : Nat → Int32) (k i : Nat) : tx_line b (k + 1) i = if b i = nI 10 then i else tx_line b k (i + 1) := rfl
theorem tx_skip_s (b : Nat → Int32) (n k i : Nat) : tx_skip b n (k + 1) i = if i < n then (if tx_beh b n i = i then i else tx_skip b n k (tx_beh b n i)) else i := rfl
theorem tx_skip_e {b : Nat → Int32} {n k i : Nat} (h : ¬ i < n) : tx_skip b n k i = i := by
  cases k with
  | zero => rfl
  | succ k => rw [tx_skip_s, if_neg h]
/-- what is skipped: the same; or a comment that does not end is found -/
theorem rb_skip {b ft : Nat → Int32} {n : Nat} (h : rb b ft n) : ∀ k i, i ≤ n → n ≤ i + k → (m_skip ft n k i = nI (tx_skip b n k i) ∨ (m_skip ft n k i = (-2) - nI (tx_skip b n k i) ∧ tx_skip b n k i < n ∧ ft (tx_skip b n k i) = nI 47)) ∧ tx_skip b n k i ≤ n
  | 0, i, hi, hk => ⟨Or.inl rfl, hi⟩
  | k + 1, i, hi, hk => by
    have stay : tx_beh b n i = i → i < n → tx_skip b n (k + 1) i = i := fun e q => by rw [tx_skip_s, if_pos q, if_pos e]
    have move : ∀ j, tx_beh b n i = j → i < j → j ≤ n → i < n → m_skip ft n (k + 1) i = m_skip ft n k j → (m_skip ft n (k + 1) i = nI (tx_skip b n (k + 1) i) ∨ (m_skip ft n (k + 1) i = (-2) - nI (tx_skip b n (k + 1) i) ∧ tx_skip b n (k + 1) i < n ∧ ft (tx_skip b n (k + 1) i) = nI 47)) ∧ tx_skip b n (k + 1) i ≤ n := by
      intro j e hj hjn q em
      have es : tx_skip b n (k + 1) i = tx_skip b n k j := by rw [tx_skip_s, if_pos q, if_neg (by omega), e]
      rw [em, es]
      exact rb_skip h k j hjn (by omega)
    by_cases q : i < n
    · by_cases q1 : tx_blank (ft i) = true
      · refine move (i + 1) ?_ (by omega) (by omega) q ?_
        · unfold tx_beh; rw [rb_blank h q, if_pos q1]
        · rw [m_skip_s, if_pos q, if_pos q1]
      · by_cases q2 : ft i = nI 47
        · have g2 := (rb_eq h q (by decide)).mpr q2
          by_cases q3 : i + 1 < n
          · have n1 : ¬ (b i ≠ nI 47 ∨ n ≤ i + 1) := by rintro (z | z); exact z g2; omega
            by_cases q4 : ft (i + 1) = nI 47
            · have e : tx_line ft (n - i) i = tx_line b (n - (i + 2)) (i + 2) := by
                rw [show n - i = (n - (i + 2)) + 1 + 1 by omega, tx_line_s, if_neg (by rw [q2]; decide), tx_line_s, if_neg (by rw [q4]; decide), rb_line h _ _ (by omega)]
              have := tx_line_ge b (n - (i + 2)) (i + 2)
              have := tx_line_le b (n - (i + 2)) (i + 2)
              refine move (tx_line b (n - (i + 2)) (i + 2)) ?_ (by omega) (by omega) q ?_
              · unfold tx_beh; rw [rb_blank h q, if_neg q1, if_neg n1, if_pos ((rb_eq h q3 (by decide)).mpr q4)]
              · rw [m_skip_s, if_pos q, if_neg q1, if_pos ⟨q2, by rw [m_at_lt q3]; exact q4⟩, e]
            · have g4 : ¬ b (i + 1) = nI 47 := fun z => q4 ((rb_eq h q3 (by decide)).mp z)
              have n4 : ¬ (ft i = nI 47 ∧ m_at ft n (i + 1) = nI 47) := by rw [m_at_lt q3]; exact fun z => q4 z.2
              by_cases q5 : ft (i + 1) = nI 42
              · have p5 : ft i = nI 47 ∧ m_at ft n (i + 1) = nI 42 := ⟨q2, by rw [m_at_lt q3]; exact q5⟩
                have hc := rb_com h (n - (i + 2)) (i + 2) (by omega)
                have eb : tx_beh b n i = (tx_com b (n - 1 - (i + 2)) (i + 2)).getD i := by
                  unfold tx_beh; rw [rb_blank h q, if_neg q1, if_neg n1, if_neg g4, if_pos ((rb_eq h q3 (by decide)).mpr q5)]
                by_cases q6 : n ≤ m_com ft n (n - (i + 2)) (i + 2)
                · rw [if_pos q6] at hc
                  rw [hc] at eb
                  have es := stay eb q
                  have em : m_skip ft n (k + 1) i = (-2) - nI i := by rw [m_skip_s, if_pos q, if_neg q1, if_neg n4, if_pos p5, if_pos q6]
                  rw [es, em]
                  exact ⟨Or.inr ⟨rfl, q, q2⟩, hi⟩
                · rw [if_neg q6] at hc
                  rw [hc] at eb
                  have := m_com_ge ft n (n - (i + 2)) (i + 2)
                  have := tx_com_le b _ _ _ hc
                  refine move _ eb ?_ ?_ q ?_
                  · show i < m_com ft n (n - (i + 2)) (i + 2) + 2; omega
                  · show m_com ft n (n - (i + 2)) (i + 2) + 2 ≤ n; omega
                  · rw [m_skip_s, if_pos q, if_neg q1, if_neg n4, if_pos p5, if_neg q6]; rfl
              · have n5 : ¬ (ft i = nI 47 ∧ m_at ft n (i + 1) = nI 42) := by rw [m_at_lt q3]; exact fun z => q5 z.2
                have es := stay (by unfold tx_beh; rw [rb_blank h q, if_neg q1, if_neg n1, if_neg g4, if_neg (fun z => q5 ((rb_eq h q3 (by decide)).mp z))]) q
                have em : m_skip ft n (k + 1) i = nI i := by rw [m_skip_s, if_pos q, if_neg q1, if_neg n4, if_neg n5]
                rw [es, em]
                exact ⟨Or.inl rfl, hi⟩
          · have es := stay (by unfold tx_beh; rw [rb_blank h q, if_neg q1, if_pos (Or.inr (by omega))]) q
            have em : m_skip ft n (k + 1) i = nI i := by rw [m_skip_s, if_pos q, if_neg q1, if_neg (fun z => q3 (m_at_in z.2 (by decide))), if_neg (fun z => q3 (m_at_in z.2 (by decide)))]
            rw [es, em]
            exact ⟨Or.inl rfl, hi⟩
        · have es := stay (by unfold tx_beh; rw [rb_blank h q, if_neg q1, if_pos (Or.inl (fun z => q2 ((rb_eq h q (by decide)).mp z)))]) q
          have em : m_skip ft n (k + 1) i = nI i := by rw [m_skip_s, if_pos q, if_neg q1, if_neg (fun z => q2 z.1), if_neg (fun z => q2 z.1)]
          rw [es, em]
          exact ⟨Or.inl rfl, hi⟩
    · rw [tx_skip_e q, m_skip_e q]
      exact ⟨Or.inl rfl, hi⟩
theorem rb_wend {b ft : Nat → Int32} {n : Nat} (h : rb b ft n) : ∀ k i, i + k ≤ n → tx_wend b k i = m_wend ft k i
  | 0, _, _ => rfl
  | k + 1, i, hk => by
    show (if tx_wordb (b i) = true then tx_wend b k (i + 1) else i) = (if m_wordb (ft i) = true then m_wend ft k (i + 1) else i)
    rw [rb_wend h k (i + 1) (by omega), rb_wordb h (by omega)]
/-! Words: as lists of bytes; as two numbers -/
def wd (ft : Nat → Int32) (i : Nat) : Nat → List Nat
  | 0 => []
  | k + 1 => (ft i).toInt.toNat :: wd ft (i + 1) k
theorem wd_len (ft : Nat → Int32) : ∀ k i, (wd ft i k).length = k
  | 0, _ => rfl
  | k + 1, i => by show (wd ft (i + 1) k).length + 1 = k + 1; rw [wd_len ft k (i + 1)]
/-- the number of a list of bytes -/
def wkp : Nat → List Nat → Nat
  | a, [] => a
  | a, x :: l => wkp (256 * a + x) l
theorem wkp_app : ∀ (l r : List Nat) (a : Nat), wkp a (l ++ r) = wkp (wkp a l) r
  | [], _, _ => rfl
  | x :: l, r, a => wkp_app l r (256 * a + x)
theorem wkp_snoc (a : Nat) (l : List Nat) (x : Nat) : wkp a (l ++ [x]) = 256 * wkp a l + x := by rw [wkp_app]; rfl
/-- a byte of a name: not 0, below 256 -/
def nb (l : List Nat) : Prop := ∀ x ∈ l, 0 < x ∧ x < 128
theorem wkp_inj : ∀ (n : Nat) (l r : List Nat), l.length = n → nb l → nb r → wkp 0 l = wkp 0 r → l = r
  | 0, l, r, hl, h1, h2, h => by
    have : l = [] := List.length_eq_zero_iff.mp hl
    subst this
    rcases List.eq_nil_or_concat r with rfl | ⟨r', y, rfl⟩
    · rfl
    · rw [List.concat_eq_append] at h h2
      rw [wkp_snoc] at h
      have := h2 y (by simp)
      have h : 0 = 256 * wkp 0 r' + y := h
      omega
  | n + 1, l, r, hl, h1, h2, h => by
    rcases List.eq_nil_or_concat l with rfl | ⟨l', x, rfl⟩
    · cases hl
    · rw [List.concat_eq_append] at h h1 hl ⊢
      rw [wkp_snoc] at h
      have hx := h1 x (by simp)
      rcases List.eq_nil_or_concat r with rfl | ⟨r', y, rfl⟩
      · have h : 256 * wkp 0 l' + x = 0 := h
        omega
      · rw [List.concat_eq_append] at h h2 ⊢
        rw [wkp_snoc] at h
        have hy := h2 y (by simp)
        have e1 : x = y := by omega
        have e2 : wkp 0 l' = wkp 0 r' := by omega
        have hl' : l'.length = n := by simpa using hl
        rw [wkp_inj n l' r' hl' (fun z hz => h1 z (by simp [hz])) (fun z hz => h2 z (by simp [hz])) e2, e1]
theorem wkp_lt : ∀ (l : List Nat) (a N : Nat), nb l → a < N → wkp a l < N * 256 ^ l.length
  | [], a, N, _, h => by simpa [wkp] using h
  | x :: l, a, N, hl, h => by
    have hx := hl x (by simp)
    have := wkp_lt l (256 * a + x) (256 * N) (fun z hz => hl z (by simp [hz])) (by omega)
    show wkp (256 * a + x) l < _
    rw [List.length_cons, Nat.pow_succ, Nat.mul_comm (256 ^ l.length), ← Nat.mul_assoc, Nat.mul_comm N]
    exact this
/-- a shift by a byte, and a byte behind it -/
theorem i64_step {a x : Nat} (ha : a < 2 ^ 56) (hx : x < 128) : Int64.ofNat a <<< ((nI 8).toInt64 &&& 63) ||| (nI x).toInt64 = Int64.ofNat (256 * a + x) := by
  have e8 : (nI 8).toInt64 &&& 63 = 8 := by decide
  have ex : (nI x).toInt64 = Int64.ofNat x := by
    apply Int64.toInt_inj.mp
    rw [Int32.toInt_toInt64, nI_toInt (by omega), Int64.toInt_ofNat_of_lt (by omega)]
  rw [e8, ex]
  apply Int64.toBitVec_inj.mp
  rw [Int64.toBitVec_or, Int64.toBitVec_shiftLeft]
  apply BitVec.eq_of_toNat_eq
  have e3 : ((8 : Int64).toBitVec.smod 64) = 8#64 := by decide
  rw [e3]
  rw [BitVec.toNat_or]
  simp only [Int64.toBitVec_ofNat', BitVec.toNat_ofNat, BitVec.toNat_shiftLeft, BitVec.shiftLeft_eq', Nat.shiftLeft_eq]
  have m1 : a % 2 ^ 64 = a := Nat.mod_eq_of_lt (by omega)
  have m2 : x % 2 ^ 64 = x := Nat.mod_eq_of_lt (by omega)
  have m3 : 8 % 2 ^ 64 = 8 := by decide
  have m4 : a * 2 ^ 8 % 2 ^ 64 = a * 2 ^ 8 := Nat.mod_eq_of_lt (by omega)
  have m5 : (256 * a + x) % 2 ^ 64 = 256 * a + x := Nat.mod_eq_of_lt (by omega)
  rw [m1, m2, m3, m4, m5]
  have := Nat.shiftLeft_add_eq_or_of_lt (show x < 2 ^ 8 by omega) a
  rw [Nat.shiftLeft_eq] at this
  rw [← this]
  omega
theorem i64_inj {a x : Nat} (ha : a < 2 ^ 64) (hx : x < 2 ^ 64) (h : Int64.ofNat a = Int64.ofNat x) : a = x := by
  have := congrArg (fun y => y.toBitVec.toNat) h
  simp only [Int64.toBitVec_ofNat', BitVec.toNat_ofNat] at this
  rwa [Nat.mod_eq_of_lt ha, Nat.mod_eq_of_lt hx] at this
theorem hw_1 {b : Nat → Int32} {ft : Nat → Int32} {i j : Nat} (hc : ∀ y, i ≤ y → y < j → b y = nI (ft y).toInt.toNat ∧ (ft y).toInt.toNat < 128) : ∀ (k x a : Nat) (r : Int64), i ≤ x → x + k ≤ j → x - i + k ≤ 8 → a < 256 ^ (x - i) → tx_hw b i k x (Int64.ofNat a) r = (Int64.ofNat (wkp a (wd ft x k)), r)
  | 0, x, a, r, _, _, _, _ => rfl
  | k + 1, x, a, r, h1, h2, h3, h4 => by
    obtain ⟨c1, c2⟩ := hc x h1 (by omega)
    show (if x - i < 8 then tx_hw b i k (x + 1) (Int64.ofNat a <<< ((nI 8).toInt64 &&& 63) ||| (b x).toInt64) r else tx_hw b i k (x + 1) (Int64.ofNat a) (r <<< ((nI 8).toInt64 &&& 63) ||| (b x).toInt64)) = _
    have h56 : a < 2 ^ 56 := Nat.lt_of_lt_of_le h4 (Nat.le_trans (Nat.pow_le_pow_right (by decide) (show x - i ≤ 7 by omega)) (by decide))
    rw [if_pos (by omega), c1, i64_step h56 c2, hw_1 hc k (x + 1) _ r (by omega) (by omega) (by omega) (by rw [show x + 1 - i = (x - i) + 1 by omega, Nat.pow_succ]; omega)]
    rfl
theorem hw_2 {b : Nat → Int32} {ft : Nat → Int32} {i j : Nat} (hc : ∀ y, i ≤ y → y < j → b y = nI (ft y).toInt.toNat ∧ (ft y).toInt.toNat < 128) : ∀ (k x a : Nat) (f : Int64), i + 8 ≤ x → x + k ≤ j → x - i + k ≤ 16 → a < 256 ^ (x - i - 8) → tx_hw b i k x f (Int64.ofNat a) = (f, Int64.ofNat (wkp a (wd ft x k)))
  | 0, x, a, f, _, _, _, _ => rfl
  | k + 1, x, a, f, h1, h2, h3, h4 => by
    obtain ⟨c1, c2⟩ := hc x (by omega) (by omega)
    show (if x - i < 8 then tx_hw b i k (x + 1) (f <<< ((nI 8).toInt64 &&& 63) ||| (b x).toInt64) (Int64.ofNat a) else tx_hw b i k (x + 1) f (Int64.ofNat a <<< ((nI 8).toInt64 &&& 63) ||| (b x).toInt64)) = _
    have h56 : a < 2 ^ 56 := Nat.lt_of_lt_of_le h4 (Nat.le_trans (Nat.pow_le_pow_right (by decide) (show x - i - 8 ≤ 7 by omega)) (by decide))
    rw [if_neg (by omega), c1, i64_step h56 c2, hw_2 hc k (x + 1) _ f (by omega) (by omega) (by omega) (by rw [show x + 1 - i - 8 = (x - i - 8) + 1 by omega, Nat.pow_succ]; omega)]
    rfl
theorem hw_add (b : Nat → Int32) (i : Nat) : ∀ (k k2 x : Nat) (f r : Int64), tx_hw b i (k + k2) x f r = tx_hw b i k2 (x + k) (tx_hw b i k x f r).1 (tx_hw b i k x f r).2
  | 0, k2, x, f, r => by rw [Nat.zero_add]; rfl
  | k + 1, k2, x, f, r => by
    rw [show k + 1 + k2 = (k + k2) + 1 by omega]
    show (if x - i < 8 then tx_hw b i (k + k2) (x + 1) (f <<< ((nI 8).toInt64 &&& 63) ||| (b x).toInt64) r else tx_hw b i (k + k2) (x + 1) f (r <<< ((nI 8).toInt64 &&& 63) ||| (b x).toInt64)) = tx_hw b i k2 (x + (k + 1)) (if x - i < 8 then tx_hw b i k (x + 1) (f <<< ((nI 8).toInt64 &&& 63) ||| (b x).toInt64) r else tx_hw b i k (x + 1) f (r <<< ((nI 8).toInt64 &&& 63) ||| (b x).toInt64)).1 (if x - i < 8 then tx_hw b i k (x + 1) (f <<< ((nI 8).toInt64 &&& 63) ||| (b x).toInt64) r else tx_hw b i k (x + 1) f (r <<< ((nI 8).toInt64 &&& 63) ||| (b x).toInt64)).2
    split
    · rw [hw_add b i k k2 (x + 1)]; simp only [show x + 1 + k = x + (k + 1) by omega]
    · rw [hw_add b i k k2 (x + 1)]; simp only [show x + 1 + k = x + (k + 1) by omega]
theorem wd_add (ft : Nat → Int32) : ∀ k i k2, wd ft i (k + k2) = wd ft i k ++ wd ft (i + k) k2
  | 0, i, k2 => by rw [Nat.zero_add]; rfl
  | k + 1, i, k2 => by
    rw [show k + 1 + k2 = (k + k2) + 1 by omega]
    show (ft i).toInt.toNat :: wd ft (i + 1) (k + k2) = (ft i).toInt.toNat :: wd ft (i + 1) k ++ wd ft (i + (k + 1)) k2
    rw [wd_add ft k (i + 1) k2, show i + 1 + k = i + (k + 1) by omega]; rfl
/-- a name's two numbers -/
def wh (l : List Nat) : Int64 := Int64.ofNat (wkp 0 (l.take 8))
def wt (l : List Nat) : Int64 := Int64.ofNat (wkp 0 (l.drop 8))
theorem hw_all {b : Nat → Int32} {ft : Nat → Int32} {i j : Nat} (hij : i ≤ j) (h16 : j - i ≤ 16) (hc : ∀ y, i ≤ y → y < j → b y = nI (ft y).toInt.toNat ∧ (ft y).toInt.toNat < 128) : tx_word b i j = (wh (wd ft i (j - i)), wt (wd ft i (j - i))) := by
  unfold tx_word wh wt
  by_cases h8 : j - i ≤ 8
  · have := hw_1 hc (j - i) i 0 0 (by omega) (by omega) (by omega) (by simp)
    rw [show (0 : Int64) = Int64.ofNat 0 from rfl] at *
    rw [this, List.take_of_length_le (by rw [wd_len]; exact h8), List.drop_of_length_le (by rw [wd_len]; exact h8)]
    rfl
  · rw [show j - i = 8 + (j - i - 8) by omega, hw_add]
    have h1 := hw_1 hc 8 i 0 0 (by omega) (by omega) (by omega) (by simp)
    rw [show (0 : Int64) = Int64.ofNat 0 from rfl] at *
    rw [h1]
    rw [hw_2 hc (j - i - 8) (i + 8) 0 _ (by omega) (by omega) (by omega) (by rw [show i + 8 - i - 8 = 0 by omega]; decide)]
    rw [wd_add, List.take_append_of_le_length (by rw [wd_len]; omega), List.take_of_length_le (by rw [wd_len]; omega), List.drop_append_of_le_length (by rw [wd_len]; omega), List.drop_of_length_le (by rw [wd_len]; omega), List.nil_append]
theorem nb_take {l : List Nat} (h : nb l) (n : Nat) : nb (l.take n) := fun x hx => h x (List.mem_of_mem_take hx)
theorem nb_drop {l : List Nat} (h : nb l) (n : Nat) : nb (l.drop n) := fun x hx => h x (List.mem_of_mem_drop hx)
theorem wkp_64 {l : List Nat} (h : nb l) (h8 : l.length ≤ 8) : wkp 0 l < 2 ^ 64 := by
  have := wkp_lt l 0 1 h (by decide)
  rw [Nat.one_mul] at this
  exact Nat.lt_of_lt_of_le this (Nat.le_trans (Nat.pow_le_pow_right (by decide) h8) (by decide))
theorem wh_inj {l r : List Nat} (hl : nb l) (hr : nb r) (h16 : l.length ≤ 16) (r16 : r.length ≤ 16) (h1 : wh l = wh r) (h2 : wt l = wt r) : l = r := by
  have e1 := wkp_inj _ _ _ rfl (nb_take hl 8) (nb_take hr 8) (i64_inj (wkp_64 (nb_take hl 8) (by rw [List.length_take]; omega)) (wkp_64 (nb_take hr 8) (by rw [List.length_take]; omega)) h1)
  have e2 := wkp_inj _ _ _ rfl (nb_drop hl 8) (nb_drop hr 8) (i64_inj (wkp_64 (nb_drop hl 8) (by rw [List.length_drop]; omega)) (wkp_64 (nb_drop hr 8) (by rw [List.length_drop]; omega)) h2)
  rw [← List.take_append_drop 8 l, ← List.take_append_drop 8 r, e1, e2]
/-! Words of a row; the tokens -/
theorem nI_toNat {x : Int32} (h : 0 ≤ x.toInt) : x = nI x.toInt.toNat := by
  apply Int32.toInt_inj.mp
  have := Int32.toInt_lt x
  rw [nI_toInt (by omega)]; omega
theorem m_wordb_in2 {x : Int32} (h : m_wordb x = true) : 48 ≤ x.toInt ∧ x.toInt ≤ 122 := by
  simp only [m_wordb, m_letter, tx_digit, Bool.or_eq_true, Bool.and_eq_true, Bool.not_eq_true', decide_eq_false_iff_not, decide_eq_true_eq, Int32.lt_iff_toInt_lt, Int32.le_iff_toInt_le, rb_nI (show 65 ≤ 255 by decide), rb_nI (show 90 ≤ 255 by decide), rb_nI (show 97 ≤ 255 by decide), rb_nI (show 122 ≤ 255 by decide), rb_nI (show 48 ≤ 255 by decide), rb_nI (show 57 ≤ 255 by decide)] at h
  rcases h with h | h | h
  · omega
  · omega
  · rw [h, rb_nI (by decide)]; decide
/-- the bytes i .. i + k are a name's -/
def wbs (ft : Nat → Int32) (i k : Nat) : Prop := ∀ y, i ≤ y → y < i + k → m_wordb (ft y) = true
theorem wbs_nb {ft : Nat → Int32} : ∀ k i, wbs ft i k → nb (wd ft i k)
  | 0, _, _ => fun x hx => by cases hx
  | k + 1, i, h => by
    intro x hx
    rcases List.mem_cons.mp hx with rfl | hx
    · have := m_wordb_in2 (h i (by omega) (by omega)); omega
    · exact wbs_nb k (i + 1) (fun y h1 h2 => h y (by omega) (by omega)) x hx
theorem wbs_ne {ft : Nat → Int32} {i k : Nat} (h : wbs ft i k) : ∀ x ∈ wd ft i k, x ≠ 32 := by
  induction k generalizing i with
  | zero => intro x hx; cases hx
  | succ k ih =>
    intro x hx
    rcases List.mem_cons.mp hx with rfl | hx
    · have := m_wordb_in2 (h i (by omega) (by omega)); omega
    · exact ih (fun y h1 h2 => h y (by omega) (by omega)) x hx
/-- a row of words, each with a blank behind it -/
def rw_ (cw : Nat → Int32) (RR : Nat) : Nat → List (List Nat) → Prop
  | y, [] => y = RR
  | y, r :: rs => (∀ k, k < r.length → cw (y + k) = nI (r.getD k 0) ∧ r.getD k 0 ≠ 32 ∧ r.getD k 0 < 128) ∧ cw (y + r.length) = nI 32 ∧ y + r.length < RR ∧ rw_ cw RR (y + r.length + 1) rs
def wix (l : List Nat) : List (List Nat) → Nat → Option Nat
  | [], _ => none
  | r :: rs, v => if l = r then some v else wix l rs (v + 1)
theorem m_sp_at {cw : Nat → Int32} {y : Nat} {r : List Nat} (h : ∀ k, k < r.length → cw (y + k) = nI (r.getD k 0) ∧ r.getD k 0 ≠ 32 ∧ r.getD k 0 < 128) (he : cw (y + r.length) = nI 32) : ∀ d k x, x + k = r.length → k < d → m_sp cw d (y + x) = y + r.length
  | 0, _, _, _, hd => absurd hd (Nat.not_lt_zero _)
  | d + 1, k, x, hx, hd => by
    show (if cw (y + x) = nI 32 then y + x else m_sp cw d (y + x + 1)) = _
    cases k with
    | zero => rw [show y + x = y + r.length by omega, if_pos he]
    | succ k =>
      obtain ⟨h1, h2, h3⟩ := h x (by omega)
      rw [if_neg (by rw [h1, nI_eq (by omega) (by decide)]; exact h2)]
      exact m_sp_at h he d k (x + 1) (by omega) (by omega)
theorem m_pre_all {cw ft : Nat → Int32} {a y : Nat} : ∀ k i, m_pre cw ft a y k i = i + k ↔ ∀ x, i ≤ x → x < i + k → cw (y + x) = ft (a + x)
  | 0, i => ⟨fun _ x h1 h2 => by omega, fun _ => rfl⟩
  | k + 1, i => by
    show (if cw (y + i) = ft (a + i) then m_pre cw ft a y k (i + 1) else i) = i + (k + 1) ↔ _
    by_cases q : cw (y + i) = ft (a + i)
    · rw [if_pos q, show i + (k + 1) = (i + 1) + k by omega, m_pre_all k (i + 1)]
      constructor
      · intro h x h1 h2
        rcases Nat.eq_or_lt_of_le h1 with rfl | h1
        · exact q
        · exact h x h1 h2
      · exact fun h x h1 h2 => h x (by omega) h2
    · rw [if_neg q]
      constructor
      · intro h; omega
      · intro h; exact absurd (h i (by omega) (by omega)) q
theorem wd_get {ft : Nat → Int32} : ∀ k i x, x < k → (wd ft i k).getD x 0 = (ft (i + x)).toInt.toNat
  | 0, _, _, h => absurd h (Nat.not_lt_zero _)
  | k + 1, i, 0, _ => rfl
  | k + 1, i, x + 1, h => by
    show (wd ft (i + 1) k).getD x 0 = _
    rw [wd_get k (i + 1) x (by omega), show i + 1 + x = i + (x + 1) by omega]
theorem l_getD {l : List Nat} {k : Nat} (h : k < l.length) : l.getD k 0 = l[k] := by simp [List.getD, h]
theorem m_hit {cw ft : Nat → Int32} {a y n : Nat} {r : List Nat} (h : ∀ k, k < r.length → cw (y + k) = nI (r.getD k 0) ∧ r.getD k 0 ≠ 32 ∧ r.getD k 0 < 128) (he : cw (y + r.length) = nI 32) (hw : wbs ft a n) : (m_pre cw ft a y n 0 = n ∧ cw (y + m_pre cw ft a y n 0) = nI 32) ↔ wd ft a n = r := by
  have hp := m_pre_all (cw := cw) (ft := ft) (a := a) (y := y) n 0
  rw [Nat.zero_add] at hp
  constructor
  · rintro ⟨h1, h2⟩
    have h3 := hp.mp h1
    rw [h1] at h2
    have hn : n = r.length := by
      rcases Nat.lt_trichotomy n r.length with q | q | q
      · obtain ⟨g1, g2, g3⟩ := h n q
        rw [g1, nI_eq (by omega) (by decide)] at h2
        exact absurd h2 g2
      · exact q
      · have g := h3 r.length (by omega) q
        rw [he] at g
        have := m_wordb_in2 (hw (a + r.length) (by omega) (by omega))
        rw [← g, rb_nI (by decide)] at this
        omega
    apply List.ext_getElem (by rw [wd_len]; exact hn)
    intro k k1 k2
    have e1 := wd_get (ft := ft) n a k (by omega)
    have e2 := (h k (by omega))
    rw [l_getD k1] at e1
    rw [l_getD k2] at e2
    rw [e1, ← h3 k (by omega) (by omega), e2.1, nI_toInt (by omega)]
    rfl
  · intro e
    have hn : r.length = n := by rw [← e, wd_len]
    have h1 : m_pre cw ft a y n 0 = n := hp.mpr (fun x _ hx => by
      rw [(h x (by omega)).1, ← e, wd_get n a x hx]
      have := m_wordb_in2 (hw (a + x) (by omega) (by omega))
      exact (nI_toNat (by omega)).symm)
    rw [h1]
    exact ⟨rfl, by rw [← hn]; exact he⟩
theorem m_word_ix {cw ft : Nat → Int32} {RR a n : Nat} (hw : wbs ft a n) : ∀ (rs : List (List Nat)) (k v y : Nat), rw_ cw RR y rs → rs.length ≤ k → m_word cw ft RR a n k v y = wix (wd ft a n) rs v
  | [], k, v, y, h, _ => by
    have h : y = RR := h
    exact m_word_e (by omega)
  | r :: rs, 0, v, y, h, hk => by simp at hk
  | r :: rs, k + 1, v, y, h, hk => by
    obtain ⟨h1, h2, h3, h4⟩ := h
    have hh := m_hit h1 h2 hw
    rw [m_word_s, if_pos (by omega)]
    show _ = if wd ft a n = r then some v else wix (wd ft a n) rs (v + 1)
    by_cases q : wd ft a n = r
    · rw [if_pos q, if_pos (hh.mpr q)]
    · have e := m_sp_at h1 h2 (RR - y) r.length 0 (by omega) (by omega)
      rw [Nat.add_zero] at e
      rw [if_neg q, if_neg (fun z => q (hh.mp z)), e, m_word_ix hw rs k (v + 1) _ h4 (by simpa using hk)]
theorem wix_in : ∀ (rs : List (List Nat)) (l : List Nat) (v w : Nat), wix l rs v = some w → v ≤ w ∧ w < v + rs.length
  | [], l, v, w, h => by cases h
  | r :: rs, l, v, w, h => by
    have h : (if l = r then some v else wix l rs (v + 1)) = some w := h
    split at h
    · cases h; rw [List.length_cons]; omega
    · have := wix_in rs l (v + 1) w h; rw [List.length_cons]; omega
theorem m_same_f (ft : Nat → Int32) (a b : Nat) : ∀ k i, m_same ft a b k i false = false
  | 0, _ => rfl
  | k + 1, i => by show (if false = true then _ else false) = false; rfl
theorem m_same_all {ft : Nat → Int32} {a b : Nat} : ∀ k i, m_same ft a b k i true = true ↔ ∀ x, i ≤ x → x < i + k → ft (a + x) = ft (b + x)
  | 0, i => ⟨fun _ x h1 h2 => by omega, fun _ => rfl⟩
  | k + 1, i => by
    show (if true = true then m_same ft a b k (i + 1) (decide (ft (a + i) = ft (b + i))) else true) = true ↔ _
    rw [if_pos rfl]
    by_cases q : ft (a + i) = ft (b + i)
    · rw [decide_eq_true q, m_same_all k (i + 1)]
      constructor
      · intro h x h1 h2
        rcases Nat.eq_or_lt_of_le h1 with rfl | h1
        · exact q
        · exact h x h1 (by omega)
      · exact fun h x h1 h2 => h x (by omega) (by omega)
    · rw [decide_eq_false q, m_same_f]
      constructor
      · intro h; cases h
      · intro h; exact absurd (h i (by omega) (by omega)) q
/-- two names are alike when their bytes are the same -/
theorem m_like_wd {ft : Nat → Int32} {ta ts : Nat → Nat} {t u : Nat} (h1 : wbs ft (ta t) (ts t)) (h2 : wbs ft (ta u) (ts u)) : m_like ft ta ts t u = true ↔ wd ft (ta t) (ts t) = wd ft (ta u) (ts u) := by
  unfold m_like
  by_cases q : ts t = ts u
  · rw [decide_eq_true q, m_same_all]
    constructor
    · intro h
      apply List.ext_getElem (by rw [wd_len, wd_len]; exact q)
      intro k k1 k2
      rw [wd_len] at k1 k2
      have e1 := wd_get (ft := ft) (ts t) (ta t) k k1
      have e2 := wd_get (ft := ft) (ts u) (ta u) k k2
      rw [l_getD (by rw [wd_len]; exact k1)] at e1
      rw [l_getD (by rw [wd_len]; exact k2)] at e2
      rw [e1, e2, h k (by omega) (by omega)]
    · intro h x _ hx
      have e1 := wd_get (ft := ft) (ts t) (ta t) x (by omega)
      have e2 := wd_get (ft := ft) (ts u) (ta u) x (by omega)
      have g1 := m_wordb_in2 (h1 (ta t + x) (by omega) (by omega))
      have g2 := m_wordb_in2 (h2 (ta u + x) (by omega) (by omega))
      rw [h] at e1
      rw [nI_toNat (x := ft (ta t + x)) (by omega), nI_toNat (x := ft (ta u + x)) (by omega), ← e1, ← e2]
  · rw [decide_eq_false q, m_same_f]
    constructor
    · intro h; cases h
    · intro h; exact absurd (by rw [← wd_len ft (ts t) (ta t), h, wd_len]) q
/-! Each token: the same on both sides -/
def kwl : List (List Nat) := [[67, 72, 73, 80], [73, 78], [79, 85, 84], [80, 65, 82, 84, 83], [116, 114, 117, 101], [102, 97, 108, 115, 101]]
theorem kwl_nb : ∀ r ∈ kwl, nb r ∧ r.length ≤ 16 := by
  intro r hr
  simp only [kwl, List.mem_cons, List.not_mem_nil, or_false] at hr
  rcases hr with rfl | rfl | rfl | rfl | rfl | rfl <;> exact ⟨by intro x hx; simp only [List.mem_cons, List.not_mem_nil, or_false] at hx; omega, by decide⟩
theorem tx_kind_ix {l : List Nat} (hl : nb l) (h16 : l.length ≤ 16) : tx_kind (wh l) (wt l) 6 0 = match wix l kwl 0 with | some w => 6 + w | none => 3 := by
  have key : ∀ i r, r ∈ kwl → wt r = 0 → wh r = kwn i → ((wt l = 0 ∧ wh l = kwn i) ↔ l = r) := by
    intro i r hr h1 h2
    constructor
    · rintro ⟨g1, g2⟩
      exact wh_inj hl (kwl_nb r hr).1 h16 (kwl_nb r hr).2 (g2.trans h2.symm) (g1.trans h1.symm)
    · rintro rfl; exact ⟨h1, h2⟩
  have k0 := key 0 [67, 72, 73, 80] (by simp [kwl]) (by decide) (by decide)
  have k1 := key 1 [73, 78] (by simp [kwl]) (by decide) (by decide)
  have k2 := key 2 [79, 85, 84] (by simp [kwl]) (by decide) (by decide)
  have k3 := key 3 [80, 65, 82, 84, 83] (by simp [kwl]) (by decide) (by decide)
  have k4 := key 4 [116, 114, 117, 101] (by simp [kwl]) (by decide) (by decide)
  have k5 := key 5 [102, 97, 108, 115, 101] (by simp [kwl]) (by decide) (by decide)
  simp only [tx_kind, wix, kwl, k0, k1, k2, k3, k4, k5]
  by_cases q0 : l = [67, 72, 73, 80]
  · simp only [if_pos q0]
  by_cases q1 : l = [73, 78]
  · simp only [if_neg q0, if_pos q1]
  by_cases q2 : l = [79, 85, 84]
  · simp only [if_neg q0, if_neg q1, if_pos q2]
  by_cases q3 : l = [80, 65, 82, 84, 83]
  · simp only [if_neg q0, if_neg q1, if_neg q2, if_pos q3]
  by_cases q4 : l = [116, 114, 117, 101]
  · simp only [if_neg q0, if_neg q1, if_neg q2, if_neg q3, if_pos q4]
  by_cases q5 : l = [102, 97, 108, 115, 101]
  · simp only [if_neg q0, if_neg q1, if_neg q2, if_neg q3, if_neg q4, if_pos q5]
  simp only [if_neg q0, if_neg q1, if_neg q2, if_neg q3, if_neg q4, if_neg q5]
theorem m_wend_stop (ft : Nat → Int32) : ∀ k i, m_wend ft k i < i + k → m_wordb (ft (m_wend ft k i)) = false
  | 0, i, h => absurd h (by show ¬ i < i + 0; omega)
  | k + 1, i, h => by
    by_cases q : m_wordb (ft i) = true
    · have e : m_wend ft (k + 1) i = m_wend ft k (i + 1) := by show (if m_wordb (ft i) = true then m_wend ft k (i + 1) else i) = _; rw [if_pos q]
      rw [e] at h ⊢
      exact m_wend_stop ft k (i + 1) (by omega)
    · have e : m_wend ft (k + 1) i = i := by show (if m_wordb (ft i) = true then m_wend ft k (i + 1) else i) = _; rw [if_neg q]
      rw [e]; exact Bool.eq_false_iff.mpr q
theorem m_wend_end {ft : Nat → Int32} {n i : Nat} (hi : i ≤ n) : m_wordb (m_at ft n (m_wend ft (n - i) i)) = false := by
  unfold m_at
  split
  · exact m_wend_stop ft (n - i) i (by omega)
  · decide
theorem m_wend_gt {ft : Nat → Int32} {n i : Nat} (hi : i < n) : i < m_wend ft (n - i) i ↔ m_wordb (ft i) = true := by
  rw [show n - i = (n - (i + 1)) + 1 by omega]
  show i < (if m_wordb (ft i) = true then m_wend ft (n - (i + 1)) (i + 1) else i) ↔ _
  have := m_wend_ge ft (n - (i + 1)) (i + 1)
  by_cases q : m_wordb (ft i) = true
  · rw [if_pos q]; exact ⟨fun _ => q, fun _ => by omega⟩
  · rw [if_neg q]; exact ⟨fun h => by omega, fun h => absurd h q⟩
/-- a digit's byte -/
theorem dg_in {x : Int32} (h : tx_digit x = true) : ∃ c, x = nI c ∧ 48 ≤ c ∧ c ≤ 57 := by
  simp only [tx_digit, Bool.and_eq_true, Bool.not_eq_true', decide_eq_false_iff_not, Int32.lt_iff_toInt_lt, rb_nI (show 48 ≤ 255 by decide), rb_nI (show 57 ≤ 255 by decide)] at h
  exact ⟨x.toInt.toNat, nI_toNat (by omega), by omega, by omega⟩
theorem dg_word {x : Int32} (h : tx_digit x = true) : m_wordb x = true := by unfold m_wordb; rw [h]; simp
theorem nI_dg {a c : Nat} (h : 48 ≤ c) : nI 10 * nI a + nI c - nI 48 = nI (10 * a + (c - 48)) := by
  have e : nI 10 * nI a = nI (10 * a) := (Int32.ofNat_mul 10 a).symm
  obtain ⟨d, rfl⟩ : ∃ d, c = d + 48 := ⟨c - 48, by omega⟩
  rw [e, nI_add, show 10 * a + (d + 48) = (10 * a + (d + 48 - 48)) + 48 by omega, ← nI_add (10 * a + (d + 48 - 48)) 48, Int32.add_sub_cancel]
theorem m_num_s (ft : Nat → Int32) (n i k y : Nat) (v : Int32) : m_num ft n i (k + 1) y v = if tx_digit (m_at ft n y) = true ∧ y - i ≤ 2 then m_num ft n i k (y + 1) (nI 10 * v + ft y - nI 48) else (y, v) := rfl
theorem m_num_stop {ft : Nat → Int32} {n i k y : Nat} {v : Int32} (h : ¬ tx_digit (m_at ft n y) = true) : m_num ft n i k y v = (y, v) := by
  cases k with
  | zero => rfl
  | succ k => rw [m_num_s, if_neg (fun q => h q.1)]
theorem m_num_go {ft : Nat → Int32} {n i k y : Nat} {v : Int32} (hy : y < n) (h : tx_digit (ft y) = true) (h2 : y - i ≤ 2) : m_num ft n i (k + 1) y v = m_num ft n i k (y + 1) (nI 10 * v + ft y - nI 48) := by
  rw [m_num_s, if_pos ⟨by rw [m_at_lt hy]; exact h, h2⟩]
/-- a number: taken on both sides with the same value, or on none -/
theorem num_eq {b ft : Nat → Int32} {n i : Nat} (h : rb b ft n) (hi : i < n) (hd : tx_digit (ft i) = true) :
    (m_nok ft n i ∧ tx_numok b i (m_wend ft (n - i) i) = true ∧ (m_num ft n i 3 i (nI 0)).1 = m_wend ft (n - i) i ∧ ∃ v, v ≤ 99 ∧ (m_num ft n i 3 i (nI 0)).2 = nI v ∧ tx_val b (m_wend ft (n - i) i - i) i (nI 0) = nI v)
    ∨ (¬ m_nok ft n i ∧ tx_numok b i (m_wend ft (n - i) i) = false) := by
  have hgt := (m_wend_gt (ft := ft) hi).mpr (dg_word hd)
  have hle := m_wend_le ft (n - i) i
  have hall := m_wend_all ft (n - i) i
  have hend := m_wend_end (ft := ft) (Nat.le_of_lt hi)
  generalize m_wend ft (n - i) i = e at hgt hle hall hend
  have hen : e ≤ n := by omega
  have ndig : ∀ x : Int32, m_wordb x = false → ¬ tx_digit x = true := fun x hx q => by rw [dg_word q] at hx; cases hx
  obtain ⟨c, hc, c1, c2⟩ := dg_in hd
  have bi : b i = nI c := by rw [rb_eq h hi (by omega)]; exact hc
  have s1 : m_num ft n i 3 i (nI 0) = m_num ft n i 2 (i + 1) (nI (c - 48)) := by
    rw [m_num_go hi hd (by omega), hc, nI_dg c1, Nat.mul_zero, Nat.zero_add]
  rcases Nat.lt_or_ge (i + 1) e with q1 | q1
  · have w1 := hall (i + 1) (by omega) q1
    have a1 : m_at ft n (i + 1) = ft (i + 1) := m_at_lt (by omega)
    by_cases d1 : tx_digit (ft (i + 1)) = true
    · obtain ⟨c', hc', c1', c2'⟩ := dg_in d1
      have bi' : b (i + 1) = nI c' := by rw [rb_eq h (by omega) (by omega)]; exact hc'
      have s2 : m_num ft n i 2 (i + 1) (nI (c - 48)) = m_num ft n i 1 (i + 2) (nI (10 * (c - 48) + (c' - 48))) := by
        rw [m_num_go (by omega) d1 (by omega), hc', nI_dg c1']
      rcases Nat.lt_or_ge (i + 2) e with q2 | q2
      · right
        have w2 := hall (i + 2) (by omega) q2
        refine ⟨?_, ?_⟩
        · rintro ⟨g1, g2, -⟩
          rw [s1, s2] at g1 g2
          by_cases d2 : tx_digit (ft (i + 2)) = true
          · rw [m_num_go (by omega) d2 (by omega)] at g1
            have : i + 2 + 1 - i ≤ 2 := g1
            omega
          · rw [m_num_stop (by rw [m_at_lt (by omega)]; exact d2)] at g2
            have g2 : m_wordb (m_at ft n (i + 2)) = false := g2
            rw [m_at_lt (by omega), w2] at g2
            cases g2
        · unfold tx_numok
          rw [decide_eq_false (by omega)]; rfl
      · have e2 : e = i + 2 := by omega
        subst e2
        have s3 : m_num ft n i 1 (i + 2) (nI (10 * (c - 48) + (c' - 48))) = (i + 2, nI (10 * (c - 48) + (c' - 48))) := m_num_stop (ndig _ hend)
        left
        refine ⟨⟨?_, ?_, ?_⟩, ?_, ?_, 10 * (c - 48) + (c' - 48), by omega, ?_, ?_⟩
        · rw [s1, s2, s3]; show i + 2 - i ≤ 2; omega
        · rw [s1, s2, s3]; exact hend
        · rw [s1, s2, s3]; show nI _ ≤ nI 99; rw [nI_leI (by omega) (by decide)]; omega
        · unfold tx_numok; rw [show i + 2 - 1 = i + 1 by omega, rb_digit h (by omega), d1, decide_eq_true (by omega)]; rfl
        · rw [s1, s2, s3]
        · rw [s1, s2, s3]
        · rw [show i + 2 - i = 2 by omega]
          show nI 10 * (nI 10 * nI 0 + b i - nI 48) + b (i + 1) - nI 48 = _
          rw [bi, nI_dg c1, Nat.mul_zero, Nat.zero_add, bi', nI_dg c1']
    · right
      refine ⟨?_, ?_⟩
      · rintro ⟨-, g2, -⟩
        rw [s1, m_num_stop (by rw [a1]; exact d1)] at g2
        have g2 : m_wordb (m_at ft n (i + 1)) = false := g2
        rw [a1, w1] at g2
        cases g2
      · unfold tx_numok
        by_cases z : e - i ≤ 2
        · rw [show e - 1 = i + 1 by omega, rb_digit h (by omega), Bool.eq_false_iff.mpr d1, Bool.and_false]
        · rw [decide_eq_false z, Bool.false_and]
  · have e1 : e = i + 1 := by omega
    subst e1
    have s2 : m_num ft n i 2 (i + 1) (nI (c - 48)) = (i + 1, nI (c - 48)) := m_num_stop (ndig _ hend)
    left
    refine ⟨⟨?_, ?_, ?_⟩, ?_, ?_, c - 48, by omega, ?_, ?_⟩
    · rw [s1, s2]; show i + 1 - i ≤ 2; omega
    · rw [s1, s2]; exact hend
    · rw [s1, s2]; show nI _ ≤ nI 99; rw [nI_leI (by omega) (by decide)]; omega
    · unfold tx_numok; rw [show i + 1 - 1 = i by omega, rb_digit h hi, hd, decide_eq_true (by omega)]; rfl
    · rw [s1, s2]
    · rw [s1, s2]
    · rw [show i + 1 - i = 1 by omega]
      show nI 10 * nI 0 + b i - nI 48 = _
      rw [bi, nI_dg c1, Nat.mul_zero, Nat.zero_add]
/-! The scan: the same tokens on both sides -/
def tr1 (ft : Nat → Int32) (ki ai si : Nat) (vi fk fp fn : Int32) (fh fl : Int64) : Prop :=
  fp = nI ai ∧ ai + si ≤ 2000 ∧ ((ki = 0 ∧ fk = nI 0) ∨ (ki = 1 ∧ fk = nI 3 ∧ wbs ft ai si ∧ (1 ≤ si ∧ si ≤ 16) ∧ fh = wh (wd ft ai si) ∧ fl = wt (wd ft ai si)) ∨ (ki = 2 ∧ fk = nI 4 ∧ ∃ v, v ≤ 99 ∧ vi = nI v ∧ fn = nI v) ∨ (ki = 4 ∧ vi = nI 46 ∧ fk = nI 5) ∨ (ki = 4 ∧ tx_sign vi = true ∧ fk = vi) ∨ (ki = 5 ∧ ∃ w, w < 6 ∧ vi = nI w ∧ fk = nI (6 + w)) ∨ (ki = 6 ∧ fk = nI 1) ∨ (ki = 7 ∧ fk = nI 2))
theorem sign_ne {x : Int32} (h : tx_sign x = true) : x ≠ nI 0 ∧ x ≠ nI 1 ∧ m_letter x = false ∧ tx_digit x = false ∧ m_wordb x = false ∧ x ≠ nI 46 := by
  simp only [tx_sign, Bool.or_eq_true, decide_eq_true_eq] at h
  rcases h with h | h | h | h | h | h | h | h | h | h <;> subst h <;> decide
theorem not_word {x : Int32} (h1 : m_letter x = false) (h2 : tx_digit x = false) (h3 : m_wordb x = true) : x = nI 95 := by
  unfold m_wordb at h3
  rw [h1, h2] at h3
  simpa using h3
/-- one token, at a byte that is none of a blank's -/
theorem tok_eq {b ft : Nat → Int32} {n : Nat} {cw : Nat → Int32} {RR i : Nat} {S : TS} (h : rb b ft n) (hn : n ≤ 2000) (hi : i < n) (hc : rw_ cw RR 0 kwl) (hR : 6 ≤ RR) :
    (∃ ki e vi, m_ctok ft n cw RR i S = (some e, m_tok S ki i e vi) ∧ tk_end b n i = e ∧ i < e ∧ e ≤ n ∧ (¬ tk_kind b n i = nI 0 ∧ ¬ tk_kind b n i = nI 1) ∧ (ki = 1 ∨ ki = 2 ∨ ki = 4 ∨ ki = 5) ∧ ∀ t fn fh fl, tr1 ft ki i (e - i) vi (tk_kind b n i) (nI i) (tk_num b n i t fn t) (tk_hd b n i t fh t) (tk_tl b n i t fl t))
    ∨ (m_ctok ft n cw RR i S = (none, S) ∧ tk_kind b n i = nI 1) := by
  have ew : tx_wend b (n - i) i = m_wend ft (n - i) i := rb_wend h _ _ (by omega)
  have hle := m_wend_le ft (n - i) i
  have hge := m_wend_ge ft (n - i) i
  have hgt := m_wend_gt (ft := ft) hi
  have hall := m_wend_all ft (n - i) i
  unfold m_ctok tk_end tk_kind tk_num tk_hd tk_tl
  simp only [if_neg (show ¬ n ≤ i by omega), ew]
  by_cases hl : m_letter (ft i) = true
  · have hwb : m_wordb (ft i) = true := by unfold m_wordb; rw [hl]; rfl
    have hnd : tx_digit (b i) = false := by
      rw [rb_digit h hi]
      simp only [m_letter, tx_digit, Bool.or_eq_true, Bool.and_eq_true, Bool.not_eq_true', decide_eq_false_iff_not, decide_eq_true_eq, Int32.lt_iff_toInt_lt, Int32.le_iff_toInt_le, rb_nI (show 65 ≤ 255 by decide), rb_nI (show 90 ≤ 255 by decide), rb_nI (show 97 ≤ 255 by decide), rb_nI (show 122 ≤ 255 by decide), rb_nI (show 48 ≤ 255 by decide), rb_nI (show 57 ≤ 255 by decide), Bool.and_eq_false_iff, Bool.not_eq_false'] at hl ⊢
      omega
    have hgt' := hgt.mpr hwb
    simp only [if_pos hl, if_pos hgt', hnd, Bool.false_eq_true, if_false]
    unfold m_wtok
    by_cases h16 : m_wend ft (n - i) i - i ≤ 16
    · have hbs : wbs ft i (m_wend ft (n - i) i - i) := fun y y1 y2 => hall y y1 (by omega)
      have hnb := wbs_nb _ _ hbs
      have hlen := wd_len ft (m_wend ft (n - i) i - i) i
      have hok : tx_wok b i (m_wend ft (n - i) i) = true := by unfold tx_wok; rw [rb_letter h hi, hl, decide_eq_true h16]; rfl
      have hword : tx_word b i (m_wend ft (n - i) i) = (wh (wd ft i (m_wend ft (n - i) i - i)), wt (wd ft i (m_wend ft (n - i) i - i))) := by
        refine hw_all (by omega) h16 (fun y y1 y2 => ?_)
        have g := m_wordb_in2 (hall y y1 y2)
        refine ⟨?_, by omega⟩
        rw [rb_eq h (by omega) (by omega)]
        exact nI_toNat (by omega)
      have hix := m_word_ix (cw := cw) (RR := RR) hbs kwl RR 0 0 hc (by simpa [kwl] using hR)
      have hkd := tx_kind_ix hnb (by rw [hlen]; exact h16)
      left
      rw [if_pos h16, hix]
      unfold tx_wk tx_wh tx_wl
      simp only [if_pos hok, hword, hkd]
      cases hw : wix (wd ft i (m_wend ft (n - i) i - i)) kwl 0 with
      | none =>
        refine ⟨1, _, _, by rw [if_pos rfl], rfl, hgt', by omega, ⟨by decide, by decide⟩, Or.inl rfl, fun t fn fh fl => ⟨rfl, by omega, Or.inr (Or.inl ⟨rfl, rfl, hbs, by omega, ?_, ?_⟩)⟩⟩
        · simp [vp_updL]
        · simp [vp_updL]
      | some w =>
        have hw6 := wix_in _ _ _ _ hw
        have hw6 : w < 6 := by simpa [kwl] using hw6.2
        refine ⟨5, _, _, by rw [if_neg (by simp)]; rfl, rfl, hgt', by omega, ⟨?_, ?_⟩, Or.inr (Or.inr (Or.inr rfl)), fun t fn fh fl => ⟨rfl, by omega, Or.inr (Or.inr (Or.inr (Or.inr (Or.inr (Or.inl ⟨rfl, w, hw6, rfl, rfl⟩)))))⟩⟩
        · show ¬ nI (6 + w) = nI 0; rw [nI_eq (by omega) (by decide)]; omega
        · show ¬ nI (6 + w) = nI 1; rw [nI_eq (by omega) (by decide)]; omega
    · right
      have hok : ¬ tx_wok b i (m_wend ft (n - i) i) = true := by unfold tx_wok; rw [decide_eq_false h16]; simp
      rw [if_neg h16]
      unfold tx_wk
      rw [if_neg hok]
      exact ⟨rfl, rfl⟩
  · have hlf := Bool.eq_false_iff.mpr hl
    simp only [if_neg hl]
    by_cases hd : tx_digit (ft i) = true
    · have hgt' := hgt.mpr (dg_word hd)
      simp only [if_pos hd, if_pos hgt', rb_digit h hi]
      rcases num_eq h hi hd with ⟨g1, g2, g3, v, g4, g5, g6⟩ | ⟨g1, g2⟩
      · left
        rw [m_ntok_t g1, g3, g5]
        unfold tx_numk tx_numf
        simp only [if_pos g2, g6]
        refine ⟨2, _, _, rfl, rfl, hgt', by omega, ⟨by decide, by decide⟩, Or.inr (Or.inl rfl), fun t fn fh fl => ⟨rfl, by omega, Or.inr (Or.inr (Or.inl ⟨rfl, rfl, v, g4, rfl, ?_⟩))⟩⟩
        simp [upd]
      · right
        rw [m_ntok_f g1]
        unfold tx_numk
        rw [if_neg (by rw [g2]; decide)]
        exact ⟨rfl, rfl⟩
    · have hdf := Bool.eq_false_iff.mpr hd
      simp only [if_neg hd]
      by_cases hs : tx_sign (ft i) = true
      · obtain ⟨s1, s2, -, -, s5, s6⟩ := sign_ne hs
        have ng : ¬ i < m_wend ft (n - i) i := fun z => by rw [hgt.mp z] at s5; cases s5
        have bi : b i = ft i := by
          obtain ⟨-, ⟨e, -⟩ | ⟨e1, e2⟩⟩ := h i hi
          · exact e
          · exfalso
            simp only [tx_sign, Bool.or_eq_true, decide_eq_true_eq] at hs
            rcases hs with z | z | z | z | z | z | z | z | z | z <;> rw [z, rb_nI (by decide)] at e2 <;> omega
        have n46 : ¬ (b i = nI 46 ∧ i + 1 < n ∧ b (i + 1) = nI 46) := fun z => s6 (bi ▸ z.1)
        left
        simp only [if_pos hs, if_neg ng, if_neg n46, if_pos (show tx_sign (b i) = true by rw [bi]; exact hs)]
        refine ⟨4, _, _, rfl, rfl, by omega, by omega, ⟨by rw [bi]; exact s1, by rw [bi]; exact s2⟩, Or.inr (Or.inr (Or.inl rfl)), fun t fn fh fl => ⟨rfl, by omega, Or.inr (Or.inr (Or.inr (Or.inr (Or.inl ⟨rfl, hs, bi⟩))))⟩⟩
      · simp only [if_neg hs]
        by_cases h46 : ft i = nI 46 ∧ m_at ft n (i + 1) = nI 46
        · have g := (rb_at h (show 46 ≤ 127 by decide)).mpr h46.2
          have bi : b i = nI 46 := (rb_eq h hi (by decide)).mpr h46.1
          have ng : ¬ i < m_wend ft (n - i) i := fun z => by have := hgt.mp z; rw [h46.1] at this; exact absurd this (by decide)
          left
          simp only [if_pos h46, if_neg ng, if_pos (show b i = nI 46 ∧ i + 1 < n ∧ b (i + 1) = nI 46 from ⟨bi, g⟩)]
          exact ⟨4, _, _, rfl, rfl, by omega, by omega, ⟨by decide, by decide⟩, Or.inr (Or.inr (Or.inl rfl)), fun t fn fh fl => ⟨rfl, by omega, Or.inr (Or.inr (Or.inr (Or.inl ⟨rfl, h46.1, rfl⟩)))⟩⟩
        · right
          have n46 : ¬ (b i = nI 46 ∧ i + 1 < n ∧ b (i + 1) = nI 46) := fun z => h46 ⟨(rb_eq h hi (by decide)).mp z.1, (rb_at h (by decide)).mp z.2⟩
          simp only [if_neg h46]
          refine ⟨trivial, ?_⟩
          by_cases ng : i < m_wend ft (n - i) i
          · rw [if_pos ng, rb_digit h hi, if_neg hd]
            unfold tx_wk
            rw [if_neg (by unfold tx_wok; rw [rb_letter h hi, hlf]; simp)]
          · rw [if_neg ng, if_neg n46, if_neg (by rw [rb_sign h hi]; exact hs)]
/-- the tokens ahead of t are the same -/
def trs (ft : Nat → Int32) (t : Nat) (S : TS) (C : R5) : Prop := ∀ u, u < t → tr1 ft (S.2.1 u) (S.2.2.1 u) (S.2.2.2.1 u) (S.2.2.2.2 u) (C.1 u) (C.2.1 u) (C.2.2.1 u) (C.2.2.2.1 u) (C.2.2.2.2 u)
theorem tk_num_ne {b : Nat → Int32} {n i t u : Nat} {f : Nat → Int32} (h : u ≠ t) : tk_num b n i t f u = f u := by
  unfold tk_num tx_numf
  split
  · rfl
  split
  · split
    · split
      · simp [upd, h]
      · rfl
    · rfl
  · rfl
theorem tk_hd_ne {b : Nat → Int32} {n i t u : Nat} {f : Nat → Int64} (h : u ≠ t) : tk_hd b n i t f u = f u := by
  unfold tk_hd tx_wh
  split
  · rfl
  split
  · split
    · rfl
    · split
      · simp [vp_updL, h]
      · rfl
  · rfl
theorem tk_tl_ne {b : Nat → Int32} {n i t u : Nat} {f : Nat → Int64} (h : u ≠ t) : tk_tl b n i t f u = f u := by
  unfold tk_tl tx_wl
  split
  · rfl
  split
  · split
    · rfl
    · split
      · simp [vp_updL, h]
      · rfl
  · rfl
/-- a token more -/
theorem trs_put {b ft : Nat → Int32} {n a ki si : Nat} {vi : Int32} {S : TS} {C : R5} (h : trs ft S.1 S C)
    (h1 : tr1 ft ki a si vi (tk_kind b n a) (nI a) (tk_num b n a S.1 C.2.2.1 S.1) (tk_hd b n a S.1 C.2.2.2.1 S.1) (tk_tl b n a S.1 C.2.2.2.2 S.1)) : trs ft (S.1 + 1) (m_tok S ki a (a + si) vi) (tx_step b n S.1 a C) := by
  intro u hu
  by_cases q : u = S.1
  · subst q
    simp only [m_tok, tx_step, upd, va_up, if_true, Nat.add_sub_cancel_left]
    exact h1
  · have := h u (by omega)
    simp only [m_tok, tx_step, upd, va_up, if_neg q, tk_num_ne q, tk_hd_ne q, tk_tl_ne q]
    exact this
/-- what both scans leave behind: T + 1 tokens, the last one is an end, wrong, or one too many; those ahead of it are none of these -/
def tkq (ft : Nat → Int32) (T : Nat) (S : TS) (C : R5) : Prop := T ≤ 1000 ∧ S.1 = T + 1 ∧ trs ft (T + 1) S C ∧ (S.2.1 T = 0 ∨ S.2.1 T = 6 ∨ S.2.1 T = 7) ∧ ∀ u, u < T → S.2.1 u = 1 ∨ S.2.1 u = 2 ∨ S.2.1 u = 4 ∨ S.2.1 u = 5
theorem nI_m2 {n z : Nat} (hn : n ≤ 2000) (hz : z < n) : ((-2 : Int32) - ((-2 : Int32) - nI z)).toNatClampNeg = z := by rw [m_m2, nI_clamp (by omega)]
theorem scan_eq {b ft : Nat → Int32} {n : Nat} {cw : Nat → Int32} {RR : Nat} (h : rb b ft n) (hn : n ≤ 2000) (hc : rw_ cw RR 0 kwl) (hR : 6 ≤ RR) :
    ∀ (k t i : Nat) (S : TS) (C : R5), t + k = 1001 → 0 < k → i ≤ n → S.1 = t → trs ft t S C → (∀ u, u < t → S.2.1 u = 1 ∨ S.2.1 u = 2 ∨ S.2.1 u = 4 ∨ S.2.1 u = 5) → ∃ T, tkq ft T (m_tkz ft n cw RR k (m_skip ft n n i) S) (tx_scan b n k t i C)
  | 0, t, i, S, C, _, h0, _, _, _, _ => absurd h0 (Nat.lt_irrefl 0)
  | k + 1, t, i, S, C, hk, _, hi, hS, htr, hkd => by
    subst hS
    obtain ⟨hs, hsn⟩ := rb_skip h n i hi (by omega)
    have es : tx_scan b n (k + 1) S.1 i C = if tk_kind b n (tx_skip b n n i) = nI 0 ∨ tk_kind b n (tx_skip b n n i) = nI 1 then tx_step b n S.1 (tx_skip b n n i) C else tx_scan b n k (S.1 + 1) (tk_end b n (tx_skip b n n i)) (tx_step b n S.1 (tx_skip b n n i) C) := rfl
    rw [es]
    generalize ha : tx_skip b n n i = a at *
    have put : ∀ ki a' si vi, trs ft (S.1 + 1) (m_tok S ki a' (a' + si) vi) (tx_step b n S.1 a C) → ((ki = 0 ∨ ki = 6) → ∃ T, tkq ft T (m_tok S ki a' (a' + si) vi) (tx_step b n S.1 a C)) := by
      intro ki a' si vi hp hki
      refine ⟨S.1, by omega, rfl, hp, ?_, ?_⟩
      · show va_up S.2.1 S.1 ki S.1 = 0 ∨ va_up S.2.1 S.1 ki S.1 = 6 ∨ _
        rw [va_up_self]; omega
      · intro u hu
        show va_up S.2.1 S.1 ki u = 1 ∨ va_up S.2.1 S.1 ki u = 2 ∨ va_up S.2.1 S.1 ki u = 4 ∨ va_up S.2.1 S.1 ki u = 5
        rw [va_up_ne _ _ (by omega)]; exact hkd u hu
    rcases hs with hs | ⟨hs, hlt, h47⟩
    · rw [hs]
      rcases Nat.lt_or_ge a n with han | han
      · rcases tok_eq (S := S) (i := a) h hn han hc hR with ⟨ki, e, vi, g1, g2, g3, g4, ⟨g5, g5'⟩, g6, g7⟩ | ⟨g1, g2⟩
        · rw [if_neg (by rintro (z | z); exact g5 z; exact g5' z), g2]
          have hp := trs_put (b := b) (n := n) (a := a) (ki := ki) (si := e - a) (vi := vi) htr (g7 S.1 C.2.2.1 C.2.2.2.1 C.2.2.2.2)
          rw [show a + (e - a) = e by omega] at hp
          have hkd' : ∀ u, u < S.1 + 1 → (m_tok S ki a e vi).2.1 u = 1 ∨ (m_tok S ki a e vi).2.1 u = 2 ∨ (m_tok S ki a e vi).2.1 u = 4 ∨ (m_tok S ki a e vi).2.1 u = 5 := by
            intro u hu
            show va_up S.2.1 S.1 ki u = 1 ∨ va_up S.2.1 S.1 ki u = 2 ∨ va_up S.2.1 S.1 ki u = 4 ∨ va_up S.2.1 S.1 ki u = 5
            by_cases q : u = S.1
            · subst q; rw [va_up_self]; exact g6
            · rw [va_up_ne _ _ q]; exact hkd u (by omega)
          by_cases h1000 : 1000 < S.1 + 1
          · have h1 : S.1 = 1000 := by omega
            have k0 : k = 0 := by omega
            subst k0
            rw [m_tkz_o hn han g1 h1000]
            refine ⟨1000, Nat.le_refl _, by show S.1 + 1 = 1001; omega, ?_, Or.inr (Or.inr ?_), ?_⟩
            · intro u hu
              show tr1 ft (va_up (m_tok S ki a e vi).2.1 1000 7 u) ((m_tok S ki a e vi).2.2.1 u) ((m_tok S ki a e vi).2.2.2.1 u) ((m_tok S ki a e vi).2.2.2.2 u) (upd (tx_step b n S.1 a C).1 1000 (nI 2) u) ((tx_step b n S.1 a C).2.1 u) ((tx_step b n S.1 a C).2.2.1 u) ((tx_step b n S.1 a C).2.2.2.1 u) ((tx_step b n S.1 a C).2.2.2.2 u)
              have := hp u (by omega)
              by_cases q : u = 1000
              · subst q
                obtain ⟨p1, p2, -⟩ := this
                exact ⟨p1, p2, Or.inr (Or.inr (Or.inr (Or.inr (Or.inr (Or.inr (Or.inr ⟨va_up_self _ _ _, by simp [upd]⟩))))))⟩
              · rw [va_up_ne _ _ q, show upd (tx_step b n S.1 a C).1 1000 (nI 2) u = (tx_step b n S.1 a C).1 u by simp [upd, q]]
                exact this
            · show va_up (m_tok S ki a e vi).2.1 1000 7 1000 = 7
              exact va_up_self _ _ _
            · intro u hu
              show va_up (m_tok S ki a e vi).2.1 1000 7 u = 1 ∨ va_up (m_tok S ki a e vi).2.1 1000 7 u = 2 ∨ va_up (m_tok S ki a e vi).2.1 1000 7 u = 4 ∨ va_up (m_tok S ki a e vi).2.1 1000 7 u = 5
              rw [va_up_ne _ _ (by omega)]
              exact hkd' u (by omega)
          · rw [m_tkz_m hn han g1 h1000]
            exact scan_eq h hn hc hR k (S.1 + 1) e (m_tok S ki a e vi) (tx_step b n S.1 a C) (by omega) (by omega) (by omega) rfl hp hkd'
        · rw [if_pos (Or.inr g2), m_tkz_b hn han g1]
          refine put 6 a 0 (nI 0) (trs_put htr ⟨rfl, by omega, Or.inr (Or.inr (Or.inr (Or.inr (Or.inr (Or.inr (Or.inl ⟨rfl, g2⟩))))))⟩) (Or.inr rfl)
      · have ean : a = n := by omega
        have ek : tk_kind b n a = nI 0 := by unfold tk_kind; rw [if_pos han]
        rw [if_pos (Or.inl ek), m_tkz_e hn (by omega) han, show m_tok S 0 n n (nI 0) = m_tok S 0 a a (nI 0) by rw [ean]]
        exact put 0 a 0 (nI 0) (trs_put htr ⟨rfl, by omega, Or.inl ⟨rfl, ek⟩⟩) (Or.inl rfl)
    · rw [hs, m_tkz_n hn hlt]
      have ek : tk_kind b n a = nI 1 := by
        rcases tok_eq (S := S) (i := a) h hn hlt hc hR with ⟨ki, e, vi, g1, -⟩ | ⟨g1, g2⟩
        · unfold m_ctok at g1
          rw [h47, if_neg (by decide), if_neg (by decide), if_neg (by decide), if_neg (by rintro ⟨z, -⟩; exact absurd z (by decide))] at g1
          cases congrArg Prod.fst g1
        · exact g2
      rw [if_pos (Or.inr ek)]
      exact put 6 a 0 (nI 0) (trs_put htr ⟨rfl, by omega, Or.inr (Or.inr (Or.inr (Or.inr (Or.inr (Or.inr (Or.inl ⟨rfl, ek⟩))))))⟩) (Or.inr rfl)
/-! The tokens stand one behind the other -/
theorem tx_beh_ge {b : Nat → Int32} {n i : Nat} : i ≤ tx_beh b n i := by
  unfold tx_beh
  split
  · omega
  split
  · omega
  split
  · have := tx_line_ge b (n - (i + 2)) (i + 2); omega
  split
  · cases h : tx_com b (n - 1 - (i + 2)) (i + 2) with
    | none => exact Nat.le_refl _
    | some j =>
      have : ∀ k i j, tx_com b k i = some j → i ≤ j := by
        intro k
        induction k with
        | zero => intro i j h; cases h
        | succ k ih =>
          intro i j h
          have h : (if b i = nI 42 ∧ b (i + 1) = nI 47 then some (i + 2) else tx_com b k (i + 1)) = some j := h
          split at h
          · cases h; omega
          · have := ih (i + 1) j h; omega
      have := this _ _ _ h
      show i ≤ j
      omega
  · omega
theorem tx_skip_ge {b : Nat → Int32} {n : Nat} : ∀ k i, i ≤ tx_skip b n k i
  | 0, i => Nat.le_refl i
  | k + 1, i => by
    rw [tx_skip_s]
    split
    · split
      · exact Nat.le_refl i
      · exact Nat.le_trans tx_beh_ge (tx_skip_ge k _)
    · exact Nat.le_refl i
/-- places grow from token to token -/
def tinc (T : Nat) (ta : Nat → Nat) : Prop := ∀ u v, u < v → v ≤ T → ta u < ta v
theorem tinc_put {S : TS} {ki a e : Nat} {vi : Int32} (h : ∀ u v, u < v → v < S.1 → S.2.2.1 u < S.2.2.1 v) (ha : ∀ u, u < S.1 → S.2.2.1 u < a) : (∀ u v, u < v → v < S.1 + 1 → (m_tok S ki a e vi).2.2.1 u < (m_tok S ki a e vi).2.2.1 v) ∧ ∀ u, u < S.1 + 1 → (m_tok S ki a e vi).2.2.1 u ≤ a := by
  have up : ∀ u, (m_tok S ki a e vi).2.2.1 u = if u = S.1 then a else S.2.2.1 u := fun u => rfl
  refine ⟨fun u v hu hv => ?_, fun u hu => ?_⟩
  · rw [up, up, if_neg (by omega)]
    split
    · exact ha u (by omega)
    · exact h u v hu (by omega)
  · rw [up]; split
    · exact Nat.le_refl _
    · exact Nat.le_of_lt (ha u (by omega))
theorem scan_inc {b ft : Nat → Int32} {n : Nat} {cw : Nat → Int32} {RR : Nat} (h : rb b ft n) (hn : n ≤ 2000) (hc : rw_ cw RR 0 kwl) (hR : 6 ≤ RR) :
    ∀ (k i : Nat) (S : TS), S.1 + k = 1001 → 0 < k → i ≤ n → (∀ u v, u < v → v < S.1 → S.2.2.1 u < S.2.2.1 v) → (∀ u, u < S.1 → S.2.2.1 u < i) → ∀ u v, u < v → v < (m_tkz ft n cw RR k (m_skip ft n n i) S).1 → (m_tkz ft n cw RR k (m_skip ft n n i) S).2.2.1 u < (m_tkz ft n cw RR k (m_skip ft n n i) S).2.2.1 v
  | 0, i, S, _, h0, _, _, _ => absurd h0 (Nat.lt_irrefl 0)
  | k + 1, i, S, hk, _, hi, hinc, hlt => by
    obtain ⟨hs, hsn⟩ := rb_skip h n i hi (by omega)
    have hge := tx_skip_ge (b := b) (n := n) n i
    generalize tx_skip b n n i = a at *
    have ha : ∀ u, u < S.1 → S.2.2.1 u < a := fun u hu => Nat.lt_of_lt_of_le (hlt u hu) hge
    rcases hs with hs | ⟨hs, hl, h47⟩
    · rw [hs]
      rcases Nat.lt_or_ge a n with han | han
      · rcases tok_eq (S := S) (i := a) h hn han hc hR with ⟨ki, e, vi, g1, g2, g3, g4, -, -, -⟩ | ⟨g1, g2⟩
        · have p := tinc_put (ki := ki) (e := e) (vi := vi) hinc ha
          by_cases h1000 : 1000 < S.1 + 1
          · rw [m_tkz_o hn han g1 h1000]
            exact p.1
          · rw [m_tkz_m hn han g1 h1000]
            exact scan_inc h hn hc hR k e (m_tok S ki a e vi) (by show S.1 + 1 + k = 1001; omega) (by omega) (by omega) p.1 (fun u hu => by have := p.2 u hu; omega)
        · rw [m_tkz_b hn han g1]; exact (tinc_put hinc ha).1
      · rw [m_tkz_e hn (by omega) han]
        exact (tinc_put hinc (fun u hu => by have := ha u hu; omega)).1
    · rw [hs, m_tkz_n hn hl]; exact (tinc_put hinc ha).1
