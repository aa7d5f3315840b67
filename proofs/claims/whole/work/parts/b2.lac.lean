/-! The class's layout, by paths -/
theorem jn_lw {cb io : Bool} {z lf rt rt' nb : Nat} (hio : io = true → cb = false) (hr : cb = false → rt = rt') : ∀ n k fr, (io = true → rt + k + n ≤ nb) → (io = false → lf + k + n ≤ nb) → jn cb io z lf rt nb n k fr = lw Sum.inl Sum.inr io cb z lf rt' n k fr
  | 0, _, _, _, _ => rfl
  | n + 1, k, fr, h1, h2 => by
    show jn cb io z lf rt nb n (k + 1) (jn1 cb io z lf rt nb k fr) = lw Sum.inl Sum.inr io cb z lf rt' n (k + 1) _
    rw [jn_lw hio hr n (k + 1) _ (fun e => by have := h1 e; omega) (fun e => by have := h2 e; omega)]
    congr 1
    unfold jn1 sf_
    rcases io with _ | _
    · have b := h2 rfl
      rcases cb with _ | _
      · rw [if_neg (by decide), if_neg (by decide), if_pos (by omega), if_neg (by decide), if_neg (by decide), hr rfl]
      · rw [if_pos rfl, if_pos (by omega), if_neg (by decide), if_pos rfl]
    · have b := h1 rfl
      have c := hio rfl
      subst c
      rw [if_neg (by decide), if_pos rfl, if_pos (by omega), if_pos rfl, hr rfl]
theorem clm_x : ∀ n i f x, clm n i f x = if i ≤ x ∧ x < i + n then .inr 0 else f x
  | 0, i, f, x => by rw [if_neg (by omega)]; rfl
  | n + 1, i, f, x => by
    show clm n (i + 1) (va_up f i (.inr 0)) x = _
    rw [clm_x n (i + 1)]
    by_cases e : x = i
    · rw [if_neg (by omega), if_pos (by omega), e, va_up_self]
    · rw [va_up_ne _ _ e]
      by_cases q : i ≤ x ∧ x < i + (n + 1)
      · rw [if_pos q, if_pos (by omega)]
      · rw [if_neg q, if_neg (by omega)]
theorem psum_mono {f : Nat → Nat} : ∀ k i n, n ≤ m_psum f k i n
  | 0, _, _ => Nat.le_refl _
  | k + 1, i, n => Nat.le_trans (Nat.le_add_right _ _) (psum_mono k (i + 1) (n + f i))
theorem psum_mk {f : Nat → Nat} {i n : Nat} : ∀ k d, m_psum f k i n ≤ m_psum f (k + d) i n
  | k, 0 => Nat.le_refl _
  | k, d + 1 => Nat.le_trans (psum_mk k d) (by rw [show k + (d + 1) = (k + d) + 1 by omega, psum_sn]; exact Nat.le_add_right _ _)
theorem isum_mono {f : Nat → Option Nat} : ∀ k i n, n ≤ m_isum f k i n
  | 0, _, _ => Nat.le_refl _
  | k + 1, i, n => Nat.le_trans (Nat.le_add_right _ _) (isum_mono k (i + 1) (n + (f i).getD 0))
theorem inw_le (S : PS) (i : Nat) : inw S i ≤ pbn S i := by
  unfold inw pbn
  by_cases h : 1 < i
  · rw [if_pos h, if_pos h]
    unfold ow m_iplace
    refine Nat.le_trans ?_ (isum_mono _ _ _)
    have il := icn_le (S.2.2.2.2 19) (S.2.2.1 17 (i - 2)) (S.2.2.1 17 (i - 2 + 1) - S.2.2.1 17 (i - 2))
    obtain ⟨d, hd⟩ := Nat.le.dest il
    have e := psum_mk (f := S.2.2.1 21) (i := S.2.2.1 17 (i - 2)) (n := 0) (icn (S.2.2.2.2 19) (S.2.2.1 17 (i - 2)) (S.2.2.1 17 (i - 2 + 1) - S.2.2.1 17 (i - 2))) d
    rw [hd] at e
    exact e
  · rw [if_neg h, if_neg h]; split <;> omega
/-- all links are within their bits, all parts are something -/
def WFS (ft gp : Nat → Int32) (S : PS) : Prop := ∀ c q, c < S.1 15 → ptc S c q → pty S q < S.1 15 + 2 ∧ ∀ l, S.2.2.1 26 q ≤ l → l < S.2.2.1 26 (q + 1) → lwf ft gp S c (pty S q) l
theorem jl_lnw {ft tv gp : Nat → Int32} {S : PS} {c bs i pb nb l : Nat} {fr : Nat → Nat ⊕ Nat} (wf : lwf ft gp S c i l) (hb : bs + ow S c ≤ nb) (hp : pb + pbn S i ≤ nb) : jl1 ft tv gp S c bs i pb nb l fr = lnw Sum.inl Sum.inr ft tv gp S c bs i pb l fr := by
  have hi := inw_le S i
  unfold jl1 lnw
  rw [show q_lf S i ((q_pin ft gp S i (S.2.2.1 28 l)).getD 0) pb l = pb + llf ft gp S i l from q_lf_0 S i _ pb l]
  have er : q_cb S l = false → q_rt ft S c bs l = bs + lrt ft S c l := fun e => by
    have k7 : S.2.2.1 7 (S.2.2.1 32 l) = 1 := by
      unfold q_cb at e
      by_cases k : S.2.2.1 7 (S.2.2.1 32 l) = 1
      · exact k
      · rw [decide_eq_false k] at e; cases e
    exact q_rt_0 ft S c bs l k7
  refine jn_lw (fun e => (wf.1 e).1) er _ _ _ (fun e => ?_) (fun e => ?_)
  · have a := wf.1 e
    rw [er a.1]
    have := wf.2.2 a.1
    show bs + lrt ft S c l + 0 + lmb ft gp S i l ≤ nb
    omega
  · have := wf.2.1 e
    show pb + llf ft gp S i l + 0 + lmb ft gp S i l ≤ nb
    omega
theorem jls_lns {ft tv gp : Nat → Int32} {S : PS} {c bs i pb nb : Nat} (hb : bs + ow S c ≤ nb) (hp : pb + pbn S i ≤ nb) : ∀ k l fr, (∀ l', l ≤ l' → l' < l + k → lwf ft gp S c i l') → jls ft tv gp S c bs i pb nb k l fr = lns Sum.inl Sum.inr ft tv gp S c bs i pb k l fr
  | 0, _, _, _ => rfl
  | k + 1, l, fr, wf => by
    show jls ft tv gp S c bs i pb nb k (l + 1) (jl1 ft tv gp S c bs i pb nb l fr) = lns Sum.inl Sum.inr ft tv gp S c bs i pb k (l + 1) (lnw Sum.inl Sum.inr ft tv gp S c bs i pb l fr)
    rw [jl_lnw (wf l (Nat.le_refl _) (by omega)) hb hp]
    exact jls_lns hb hp k (l + 1) _ (fun l' x y => wf l' (by omega) (by omega))
/-- what the class's rows tell of gate n with its bits from w on -/
def KGC (S : PS) (fg : Nat) (Z : LZ) (n w i : Nat) : Prop := Z.2.1 (w + inw S i) = .inr (fg + n) ∧ Z.2.2.2.1 n = w ∧ Z.2.2.2.2.1 n = w + inw S i - 1 ∧ Z.2.2.1 n = decide (i = 1) ∧ Z.2.2.2.2.2.1 (fg + n) = false ∧ Z.2.2.2.2.2.2.1 (fg + n) = if i = 1 then 2 else 1
/-- what a chip's layout leaves alone -/
def FRZ (S : PS) (fg c bs : Nat) (Z Z' : LZ) : Prop := (Z.1 ≤ Z'.1 ∧ Z.2.2.2.2.2.2.2.2 ≤ Z'.2.2.2.2.2.2.2.2) ∧ (∀ x, x < Z.1 → ¬ (bs + inw S (c + 2) ≤ x ∧ x < bs + ow S c) → Z'.2.1 x = Z.2.1 x) ∧ (∀ n, n < Z.2.2.2.2.2.2.2.2 → Z'.2.2.1 n = Z.2.2.1 n ∧ Z'.2.2.2.1 n = Z.2.2.2.1 n ∧ Z'.2.2.2.2.1 n = Z.2.2.2.2.1 n) ∧ ∀ n, n < fg + Z.2.2.2.2.2.2.2.2 → Z'.2.2.2.2.2.1 n = Z.2.2.2.2.2.1 n ∧ Z'.2.2.2.2.2.2.1 n = Z.2.2.2.2.2.2.1 n
theorem FRZ.rf {S : PS} {fg c bs : Nat} {Z : LZ} : FRZ S fg c bs Z Z := ⟨⟨Nat.le_refl _, Nat.le_refl _⟩, fun _ _ _ => rfl, fun _ _ => ⟨rfl, rfl, rfl⟩, fun _ _ => ⟨rfl, rfl⟩⟩
theorem FRZ.tr {S : PS} {fg c bs : Nat} {Z Z1 Z2 : LZ} (h : FRZ S fg c bs Z Z1) (g : FRZ S fg c bs Z1 Z2) : FRZ S fg c bs Z Z2 := by
  obtain ⟨⟨h1, h1'⟩, h2, h3, h4⟩ := h
  obtain ⟨⟨g1, g1'⟩, g2, g3, g4⟩ := g
  refine ⟨⟨by omega, by omega⟩, fun x a b => (g2 x (by omega) b).trans (h2 x a b), fun n a => ?_, fun n a => ?_⟩
  · obtain ⟨x1, x2, x3⟩ := g3 n (by omega)
    obtain ⟨y1, y2, y3⟩ := h3 n a
    exact ⟨x1.trans y1, x2.trans y2, x3.trans y3⟩
  · obtain ⟨x1, x2⟩ := g4 n (by omega)
    obtain ⟨y1, y2⟩ := h4 n a
    exact ⟨x1.trans y1, x2.trans y2⟩
abbrev LAC (ft tv gp : Nat → Int32) (S : PS) (fg : Nat) (V : List Nat → Prop) (b g : List Nat → Nat) (Z Z' : LZ) : Prop := LAF Sum.inl Sum.inr (Sum.inr 0) ft tv gp S V b g Z'.2.1 Z.1 Z'.1 Z.2.2.2.2.2.2.2.2 Z'.2.2.2.2.2.2.2.2 (KGC S fg Z')
abbrev CHC (ft tv gp : Nat → Int32) (S : PS) (c bs : Nat) (b : Nat → Nat) (Z : LZ) : Prop := CHF Sum.inl Sum.inr (Sum.inr 0) ft tv gp S c bs b Z.2.1
/-- a layout of chips does what it should -/
def RECL (ft tv gp : Nat → Int32) (S : PS) (fg : Nat) (rec_ : Nat → Nat → LZ → Bool × LZ) : Prop := ∀ c pb Z Z', c < S.1 15 → lyb Z → pb + ow S c ≤ Z.1 → (∀ j, inw S (c + 2) ≤ j → j < ow S c → Z.2.1 (pb + j) = .inr 0) → rec_ c pb Z = (true, Z') → ∃ b g, LAC ft tv gp S fg (vin S c) b g Z Z' ∧ CHC ft tv gp S c pb (fun r => b [r]) Z' ∧ FRZ S fg c pb Z Z'
/-- the paths that begin with a part from a to z -/
def vrg (S : PS) (a z : Nat) (s : List Nat) : Prop := ∃ r, (a ≤ r ∧ r < z) ∧ vq S r s
theorem KGC.cg {S : PS} {fg : Nat} {Z Z' : LZ} {n w i c bs : Nat} (h : KGC S fg Z n w i) (f : FRZ S fg c bs Z Z') (hn : n < Z.2.2.2.2.2.2.2.2) (hw : bs + ow S c ≤ w) (hw2 : w + pbn S i ≤ Z.1) (hi : i ≤ 1) : KGC S fg Z' n w i := by
  have e : inw S i < pbn S i := by
    have z : ¬ 1 < i := by omega
    unfold inw pbn; rw [if_neg z, if_neg z]; split <;> omega
  obtain ⟨h1, h2, h3, h4, h5, h6⟩ := h
  obtain ⟨-, f2, f3, f4⟩ := f
  obtain ⟨x1, x2, x3⟩ := f3 n hn
  obtain ⟨y1, y2⟩ := f4 (fg + n) (by omega)
  exact ⟨by rw [f2 _ (by omega) (by omega)]; exact h1, by rw [x2]; exact h2, by rw [x3]; exact h3, by rw [x1]; exact h4, by rw [y1]; exact h5, by rw [y2]; exact h6⟩
/-- one part -/
theorem ly1_laf {ft tv gp : Nat → Int32} {S : PS} {fg : Nat} {rec_ : Nat → Nat → LZ → Bool × LZ} (hrec : RECL ft tv gp S fg rec_) (wf : WFS ft gp S) {c bs q : Nat} {Z Z' : LZ} {T : TA} {b0 : Nat → Nat} (hc : c < S.1 15) (hq : ptc S c q) (hz : lyb Z) (hb : bs + ow S c ≤ Z.1) (h1 : R1 Sum.inl (Sum.inr 0) b0 S c bs T Z.2.1) (tq : TQ (S.2.2.1 23 c) q T) (he : ly1 ft tv gp S rec_ fg c bs q Z = (true, Z')) :
    ∃ b g, LAC ft tv gp S fg (vq S q) b g Z Z' ∧ b [q] = Z.1 ∧ R1 Sum.inl (Sum.inr 0) (fun r => if r < q then b0 r else b [r]) S c bs (v1 ft gp S c (pty S q) q (S.2.2.1 26 (q + 1) - S.2.2.1 26 q) (S.2.2.1 26 q) T) Z'.2.1 ∧ R2 Sum.inl Sum.inr (Sum.inr 0) S bs (pty S q) Z.1 (tb_ ft tv gp S c q) Z'.2.1 ∧ FRZ S fg c bs Z Z' := by
  obtain ⟨wf1, wf2⟩ := wf c q hc hq
  have hiw := inw_le S (pty S q)
  unfold ly1 at he
  split at he
  · cases he
  rename_i hfit
  have hfit : Z.1 + pbn S (pty S q) ≤ 8000 := by have := hz.1; unfold pty; omega
  -- the claimed bits, and the links
  have eL : lyl ft tv gp S c bs q Z = (Z.1 + pbn S (pty S q), (lns Sum.inl Sum.inr ft tv gp S c bs (pty S q) Z.1 (S.2.2.1 26 (q + 1) - S.2.2.1 26 q) (S.2.2.1 26 q) (clm (Z.1 + pbn S (pty S q) - Z.1) Z.1 Z.2.1), Z.2.2)) := by
    have e := jls_lns (tv := tv) (c := c) (bs := bs) (i := pty S q) (pb := Z.1) (nb := Z.1 + pbn S (pty S q)) (by omega) (Nat.le_refl _) (S.2.2.1 26 (q + 1) - S.2.2.1 26 q) (S.2.2.1 26 q) (clm (Z.1 + pbn S (pty S q) - Z.1) Z.1 Z.2.1) (fun l' x y => wf2 l' x (by omega))
    rw [← e]; rfl
  have hclm : ∀ x, clm (Z.1 + pbn S (pty S q) - Z.1) Z.1 Z.2.1 x = if Z.1 ≤ x ∧ x < Z.1 + pbn S (pty S q) then .inr 0 else Z.2.1 x := fun x => by rw [clm_x]; congr 1; apply propext; omega
  have hR1 : R1 Sum.inl (Sum.inr 0) (fun r => if r < q then b0 r else Z.1) S c bs T (clm (Z.1 + pbn S (pty S q) - Z.1) Z.1 Z.2.1) := h1.cg (fun j j1 j2 => by rw [hclm, if_neg (by omega)]) (fun j z e => by rw [if_pos (tq j z e).2])
  have hR2 : R2 Sum.inl Sum.inr (Sum.inr 0) S bs (pty S q) Z.1 (fun _ => none) (clm (Z.1 + pbn S (pty S q) - Z.1) Z.1 Z.2.1) := fun j j1 => by rw [hclm, if_pos (by omega)]; rfl
  obtain ⟨l1, l2, l3⟩ := lns_l (tv := tv) (ec := Sum.inr) (q := q) (b := fun r => if r < q then b0 r else Z.1) hb (by rw [if_neg (by omega)]) (S.2.2.1 26 (q + 1) - S.2.2.1 26 q) (S.2.2.1 26 q) T (fun _ => none) _ (fun l' x y => wf2 l' x (by omega)) hR1 hR2
  generalize lns Sum.inl Sum.inr ft tv gp S c bs (pty S q) Z.1 (S.2.2.1 26 (q + 1) - S.2.2.1 26 q) (S.2.2.1 26 q) (clm (Z.1 + pbn S (pty S q) - Z.1) Z.1 Z.2.1) = F1 at eL l1 l2 l3
  have hF1 : ∀ x, x < Z.1 → ¬ (bs + inw S (c + 2) ≤ x ∧ x < bs + ow S c) → F1 x = Z.2.1 x := fun x a d => by rw [l3 x d (by omega), hclm, if_neg (by omega)]
  have hF2 : ∀ j, inw S (pty S q) ≤ j → j < pbn S (pty S q) → F1 (Z.1 + j) = .inr 0 := fun j a d => by rw [l3 _ (by omega) (by omega), hclm, if_pos (by omega)]
  have he : (if 1 < pty S q then rec_ (pty S q - 2) Z.1 (lyl ft tv gp S c bs q Z) else lyg (pty S q) fg Z.1 (lyl ft tv gp S c bs q Z)) = (true, Z') := he
  rw [eL] at he
  by_cases c1 : 1 < pty S q
  · rw [if_pos c1] at he
    have po : pbn S (pty S q) = ow S (pty S q - 2) := by unfold pbn; rw [if_pos c1]
    have pi : pty S q - 2 + 2 = pty S q := by omega
    obtain ⟨b, g, r1, r2, r3⟩ := hrec (pty S q - 2) Z.1 (Z.1 + pbn S (pty S q), (F1, Z.2.2)) Z' (by omega) ⟨hfit, hz.2⟩ (by rw [po]; exact Nat.le_refl _) (fun j j1 j2 => hF2 j (by rw [pi] at j1; exact j1) (by omega)) he
    have fz : FRZ S fg c bs Z Z' := by
      obtain ⟨⟨f1, f1'⟩, f2, f3, f4⟩ := r3
      refine ⟨⟨by have : Z.1 + pbn S (pty S q) ≤ Z'.1 := f1; omega, f1'⟩, fun x a d => ?_, f3, f4⟩
      rw [f2 x (by show x < Z.1 + pbn S (pty S q); omega) (by omega)]
      exact hF1 x a d
    refine ⟨_, _, LAF.chip (by omega) r1 r2 (by rw [← po]; exact Nat.le_refl _) r3.1.1, if_pos rfl, ?_, ?_, fz⟩
    · refine l1.cg (fun j j1 j2 => r3.2.1 _ (by show bs + j < Z.1 + pbn S (pty S q); omega) (by omega)) (fun j z e => ?_)
      by_cases w : z.1 < q
      · rw [if_pos w, if_pos w]
      · rw [if_neg w, if_neg w]; exact if_pos rfl
    · exact l2.cg (fun j j1 => r3.2.1 _ (by show Z.1 + j < Z.1 + pbn S (pty S q); omega) (by rw [pi]; omega))
  · rw [if_neg c1] at he
    have iq : pty S q = 0 ∨ pty S q = 1 := by omega
    have iw : inw S (pty S q) = if pty S q = 0 then 2 else 1 := by unfold inw; rw [if_neg c1]
    have pb_ : pbn S (pty S q) = inw S (pty S q) + 1 := by unfold pbn inw; rw [if_neg c1, if_neg c1]; split <;> rfl
    unfold lyg at he
    split at he
    · rename_i hng
      have hng : Z.2.2.2.2.2.2.2.2 < 300 := hng
      cases he
      have fz : FRZ S fg c bs Z (Z.1 + pbn S (pty S q), agt (decide (pty S q = 1)) (if pty S q = 0 then 2 else 1) Z.1 (Z.1 + pbn S (pty S q)) fg (F1, Z.2.2)) := by
        refine ⟨⟨Nat.le_add_right _ _, Nat.le_succ _⟩, fun x a d => ?_, fun n a => ⟨va_up_ne _ _ (Nat.ne_of_lt a), va_up_ne _ _ (Nat.ne_of_lt a), va_up_ne _ _ (Nat.ne_of_lt a)⟩, fun n a => ⟨va_up_ne _ _ (by show n ≠ fg + Z.2.2.2.2.2.2.2.2; omega), va_up_ne _ _ (by show n ≠ fg + Z.2.2.2.2.2.2.2.2; omega)⟩⟩
        show (if Z.1 + (if pty S q = 0 then 2 else 1) < Z.1 + pbn S (pty S q) then va_up F1 (Z.1 + (if pty S q = 0 then 2 else 1)) (.inr (fg + Z.2.2.2.2.2.2.2.2)) else F1) x = _
        rw [← iw, if_pos (by omega), va_up_ne _ _ (by omega)]
        exact hF1 x a d
      have hfr : ∀ x, (agt (decide (pty S q = 1)) (if pty S q = 0 then 2 else 1) Z.1 (Z.1 + pbn S (pty S q)) fg (F1, Z.2.2)).1 x = if x = Z.1 + inw S (pty S q) then .inr (fg + Z.2.2.2.2.2.2.2.2) else F1 x := fun x => by
        show (if Z.1 + (if pty S q = 0 then 2 else 1) < Z.1 + pbn S (pty S q) then va_up F1 (Z.1 + (if pty S q = 0 then 2 else 1)) (.inr (fg + Z.2.2.2.2.2.2.2.2)) else F1) x = _
        rw [← iw, if_pos (by omega)]; rfl
      refine ⟨fun _ => Z.1, fun _ => Z.2.2.2.2.2.2.2.2, LAF.gate (by omega) ⟨?_, ?_, ?_, ?_, ?_, ?_⟩ (Nat.le_refl _), rfl, ?_, ?_, fz⟩
      · show (agt _ _ _ _ _ _).1 _ = _
        rw [hfr, if_pos rfl]
      · exact va_up_self _ _ _
      · show va_up _ _ (Z.1 + (if pty S q = 0 then 2 else 1) - 1) _ = _
        rw [← iw]; exact va_up_self _ _ _
      · exact va_up_self _ _ _
      · exact va_up_self _ _ _
      · show va_up _ _ (if decide (pty S q = 1) = true then 2 else 1) _ = _
        rw [va_up_self]
        by_cases z : pty S q = 1
        · rw [if_pos z, if_pos (by simp [z])]
        · rw [if_neg z, if_neg (by simp [z])]
      · refine l1.cg (fun j j1 j2 => ?_) (fun j z e => rfl)
        show (agt _ _ _ _ _ _).1 _ = _
        rw [hfr, if_neg (by omega)]
      · refine l2.cg (fun j j1 => ?_)
        show (agt _ _ _ _ _ _).1 _ = _
        rw [hfr, if_neg (by omega)]
    · cases he
theorem vq_hd {S : PS} {q : Nat} {s : List Nat} (h : vq S q s) : s.headD 0 = q := by
  obtain ⟨t, rfl, -⟩ := h; rfl
/-- the parts from q on -/
theorem lyp_laf {ft tv gp : Nat → Int32} {S : PS} {fg : Nat} {rec_ : Nat → Nat → LZ → Bool × LZ} (hrec : RECL ft tv gp S fg rec_) (hrb : ∀ c bs Z, lyb Z → lyb (rec_ c bs Z).2) (wf : WFS ft gp S) {c bs : Nat} (hc : c < S.1 15) : ∀ k q Z Z' T b0, S.2.2.1 23 c ≤ q → q + k = S.2.2.1 23 (c + 1) → lyb Z → bs + ow S c ≤ Z.1 → R1 Sum.inl (Sum.inr 0) b0 S c bs T Z.2.1 → TQ (S.2.2.1 23 c) q T → lyp ft tv gp S rec_ fg c bs k q Z = (true, Z') →
    ∃ b g, LAC ft tv gp S fg (vrg S q (q + k)) b g Z Z' ∧ R1 Sum.inl (Sum.inr 0) (fun r => if r < q then b0 r else b [r]) S c bs (w1 ft gp S c k q T) Z'.2.1 ∧ (∀ r, q ≤ r → r < q + k → bs + ow S c ≤ b [r] ∧ R2 Sum.inl Sum.inr (Sum.inr 0) S bs (pty S r) (b [r]) (tb_ ft tv gp S c r) Z'.2.1) ∧ FRZ S fg c bs Z Z'
  | 0, q, Z, Z', T, b0, hq, hk, hz, hb, h1, tq, he => by
    cases he
    refine ⟨fun _ => 0, fun _ => 0, ⟨⟨fun s hs => ?_, fun s s' hs => ?_, fun n a d => by omega⟩, fun s hs => ?_⟩, h1.cg (fun _ _ _ => rfl) (fun j z e => by rw [if_pos (tq j z e).2]), fun r a d => by omega, FRZ.rf⟩
    · obtain ⟨r, a, -⟩ := hs; omega
    · obtain ⟨r, a, -⟩ := hs; omega
    · obtain ⟨r, a, -⟩ := hs; omega
  | k + 1, q, Z, Z', T, b0, hq, hk, hz, hb, h1, tq, he => by
    have he : (if (ly1 ft tv gp S rec_ fg c bs q Z).1 = true then lyp ft tv gp S rec_ fg c bs k (q + 1) (ly1 ft tv gp S rec_ fg c bs q Z).2 else ly1 ft tv gp S rec_ fg c bs q Z) = (true, Z') := he
    have hq2 : ptc S c q := ⟨hq, by omega⟩
    by_cases e1 : (ly1 ft tv gp S rec_ fg c bs q Z).1 = true
    · rw [if_pos e1] at he
      have hz1 : lyb (ly1 ft tv gp S rec_ fg c bs q Z).2 := ly1_b hrb hz
      obtain ⟨Z1, hZ1⟩ : ∃ z, z = (ly1 ft tv gp S rec_ fg c bs q Z).2 := ⟨_, rfl⟩
      have e2 : ly1 ft tv gp S rec_ fg c bs q Z = (true, Z1) := Prod.ext e1 hZ1.symm
      rw [← hZ1] at he hz1
      obtain ⟨b, g, a1, a2, a3, a4, a5⟩ := ly1_laf hrec wf hc hq2 hz hb h1 tq e2
      have tq1 : TQ (S.2.2.1 23 c) (q + 1) (v1 ft gp S c (pty S q) q (S.2.2.1 26 (q + 1) - S.2.2.1 26 q) (S.2.2.1 26 q) T) := TQ_v1 ⟨hq, by omega⟩ _ _ _ (fun j w e => ⟨(tq j w e).1, Nat.lt_succ_of_lt (tq j w e).2⟩)
      obtain ⟨b2, g2, c1, c2, c3, c4⟩ := lyp_laf hrec hrb wf hc k (q + 1) Z1 Z' _ (fun r => if r < q then b0 r else b [r]) (by omega) (by omega) hz1 (by have := a5.1.1; omega) a3 tq1 he
      have dd : ∀ s, vrg S (q + 1) (q + 1 + k) s → decide (s.headD 0 = q) = false := fun s hs => by
        obtain ⟨r, x1, x2⟩ := hs
        rw [vq_hd x2]; exact decide_eq_false (by omega)
      have app := LAF.app (fun s => decide (s.headD 0 = q)) a1 c1 (inw_le S) (fun s hs => decide_eq_true (vq_hd hs)) dd (fun s c' r hs t hr => vq_ch hs t hr) (fun s c' r hs t hr => by obtain ⟨r0, x1, x2⟩ := hs; exact ⟨r0, x1, vq_ch x2 t hr⟩) ⟨a5.1.1, c4.1.1⟩ ⟨a5.1.2, c4.1.2⟩ (fun x x1 x2 => c4.2.1 x x2 (by omega)) (fun n w i n1 w1 w2 i1 hK => hK.cg c4 n1 (by omega) w2 i1)
      have eV : (fun s => vq S q s ∨ vrg S (q + 1) (q + 1 + k) s) = vrg S q (q + (k + 1)) := by
        funext s
        apply propext
        constructor
        · rintro (x | ⟨r, x1, x2⟩)
          · exact ⟨q, ⟨Nat.le_refl _, by omega⟩, x⟩
          · exact ⟨r, ⟨by omega, by omega⟩, x2⟩
        · rintro ⟨r, x1, x2⟩
          by_cases z : r = q
          · exact Or.inl (z ▸ x2)
          · exact Or.inr ⟨r, ⟨by omega, by omega⟩, x2⟩
      rw [eV] at app
      have dh : ∀ r, r = q → decide (([r] : List Nat).headD 0 = q) = true := fun r e => decide_eq_true e
      have dn : ∀ r, r ≠ q → ¬ decide (([r] : List Nat).headD 0 = q) = true := fun r e z => e (of_decide_eq_true z)
      refine ⟨_, _, app, ?_, fun r r1 r2 => ?_, a5.tr c4⟩
      · refine c2.cg (fun _ _ _ => rfl) (fun j z e => ?_)
        show (if z.1 < q then b0 z.1 else if decide (([z.1] : List Nat).headD 0 = q) = true then b [z.1] else b2 [z.1]) = (if z.1 < q + 1 then (if z.1 < q then b0 z.1 else b [z.1]) else b2 [z.1])
        by_cases z1 : z.1 < q
        · rw [if_pos z1, if_pos (show z.1 < q + 1 by omega), if_pos z1]
        · rw [if_neg z1]
          by_cases z2 : z.1 = q
          · rw [if_pos (dh _ z2), if_pos (show z.1 < q + 1 by omega), if_neg z1]
          · rw [if_neg (dn _ z2), if_neg (show ¬ z.1 < q + 1 by omega)]
      · show bs + ow S c ≤ (if decide (([r] : List Nat).headD 0 = q) = true then b [r] else b2 [r]) ∧ R2 Sum.inl Sum.inr (Sum.inr 0) S bs (pty S r) (if decide (([r] : List Nat).headD 0 = q) = true then b [r] else b2 [r]) (tb_ ft tv gp S c r) Z'.2.1
        by_cases z : r = q
        · rw [if_pos (dh _ z)]
          subst z
          rw [a2]
          have kk := (a1.1.1 [r] ⟨[], rfl, trivial⟩).1
          rw [tyl_1, a2] at kk
          have := inw_le S (pty S r)
          exact ⟨hb, a4.cg (fun j j1 => c4.2.1 _ (by omega) (by omega))⟩
        · rw [if_neg (dn _ z)]; exact c3 r (by omega) (by omega)
    · rw [if_neg e1] at he
      rw [he] at e1; exact absurd rfl e1
theorem vin_rg {S : PS} {c : Nat} (s : List Nat) : vrg S (S.2.2.1 23 c) (S.2.2.1 23 (c + 1)) s ↔ vin S c s := by
  constructor
  · rintro ⟨r, x1, t, rfl, ht⟩
    exact ⟨List.cons_ne_nil _ _, by omega, x1, ht⟩
  · rintro ⟨x1, x2⟩
    rcases s with _ | ⟨r, t⟩
    · exact absurd rfl x1
    · exact ⟨r, x2.2.1, t, rfl, x2.2.2⟩
theorem lay_laf {ft tv gp : Nat → Int32} {S : PS} {fg : Nat} (wf : WFS ft gp S) (m23 : ∀ c, c < S.1 15 → S.2.2.1 23 c ≤ S.2.2.1 23 (c + 1)) : ∀ d, RECL ft tv gp S fg (lay ft tv gp S fg d)
  | 0 => fun c pb Z Z' _ _ _ _ he => by cases he
  | d + 1 => fun c pb Z Z' hc hz hb h0 he => by
    have he : lyp ft tv gp S (lay ft tv gp S fg d) fg c pb (S.2.2.1 23 (c + 1) - S.2.2.1 23 c) (S.2.2.1 23 c) Z = (true, Z') := he
    have m := m23 c hc
    obtain ⟨b, g, a1, a2, a3, a4⟩ := lyp_laf (lay_laf wf m23 d) (lay_b d) wf hc _ _ Z Z' (fun _ => none) (fun _ => 0) (Nat.le_refl _) (by omega) hz hb (fun j j1 j2 => h0 j j1 j2) (fun j w e => by cases e) he
    have eV : vrg S (S.2.2.1 23 c) (S.2.2.1 23 c + (S.2.2.1 23 (c + 1) - S.2.2.1 23 c)) = vin S c := by
      rw [show S.2.2.1 23 c + (S.2.2.1 23 (c + 1) - S.2.2.1 23 c) = S.2.2.1 23 (c + 1) by omega]
      funext s; exact propext (vin_rg s)
    rw [eV] at a1
    refine ⟨b, g, a1, ⟨a2.cg (fun _ _ _ => rfl) (fun j z e => ?_), fun q hq => a3 q hq.1 (by have := hq.2; omega)⟩, a4⟩
    have t := TQ_ta (ft := ft) (gp := gp) (S := S) c j z e
    rw [if_neg (by omega)]
