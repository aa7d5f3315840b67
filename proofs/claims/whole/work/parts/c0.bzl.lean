/-! The class's board: what build lays -/
theorem ssg_x {ib : Nat} : ∀ k i T x, (ssg ib k i T).1 x = (if i ≤ x ∧ x < i + k then .inr (2 + x) else T.1 x) ∧ (ssg ib k i T).2.1 x = (if 2 + i ≤ x ∧ x < 2 + i + k then false else T.2.1 x) ∧ (ssg ib k i T).2.2 x = (if 2 + i ≤ x ∧ x < 2 + i + k then 2 else T.2.2 x)
  | 0, i, T, x => by rw [if_neg (by omega), if_neg (by omega), if_neg (by omega)]; exact ⟨rfl, rfl, rfl⟩
  | k + 1, i, T, x => by
    have r := ssg_x (ib := ib) k (i + 1) (va_up T.1 i (.inr (2 + i)), va_up T.2.1 (2 + i) false, va_up T.2.2 (2 + i) 2) x
    have e : ssg ib (k + 1) i T = ssg ib k (i + 1) (va_up T.1 i (.inr (2 + i)), va_up T.2.1 (2 + i) false, va_up T.2.2 (2 + i) 2) := rfl
    rw [e]
    refine ⟨r.1.trans ?_, r.2.1.trans ?_, r.2.2.trans ?_⟩
    · by_cases z : x = i
      · rw [if_neg (by omega), if_pos (by omega), z]; exact va_up_self _ _ _
      · rw [show (va_up T.1 i (.inr (2 + i)), va_up T.2.1 (2 + i) false, va_up T.2.2 (2 + i) 2).1 x = T.1 x from va_up_ne _ _ z]
        by_cases q : i ≤ x ∧ x < i + (k + 1)
        · rw [if_pos q, if_pos (by omega)]
        · rw [if_neg q, if_neg (by omega)]
    · by_cases z : x = 2 + i
      · rw [if_neg (by omega), if_pos (by omega), z]; exact va_up_self _ _ _
      · rw [show (va_up T.1 i (.inr (2 + i)), va_up T.2.1 (2 + i) false, va_up T.2.2 (2 + i) 2).2.1 x = T.2.1 x from va_up_ne _ _ z]
        by_cases q : 2 + i ≤ x ∧ x < 2 + i + (k + 1)
        · rw [if_pos q, if_pos (by omega)]
        · rw [if_neg q, if_neg (by omega)]
    · by_cases z : x = 2 + i
      · rw [if_neg (by omega), if_pos (by omega), z]; exact va_up_self _ _ _
      · rw [show (va_up T.1 i (.inr (2 + i)), va_up T.2.1 (2 + i) false, va_up T.2.2 (2 + i) 2).2.2 x = T.2.2 x from va_up_ne _ _ z]
        by_cases q : 2 + i ≤ x ∧ x < 2 + i + (k + 1)
        · rw [if_pos q, if_pos (by omega)]
        · rw [if_neg q, if_neg (by omega)]
/-- the rows of a board: sources, kinds, pins' bits, values, levels -/
abbrev T6 : Type := (Nat → Nat ⊕ Nat) × (Nat → Bool) × (Nat → Nat) × (Nat → Nat) × (Nat → Bool) × (Nat → Nat)
def bz0 (S : PS) (c0 : Nat) (A : T6) : LZ := (ow S c0, ((ssg (inw S (c0 + 2)) (inw S (c0 + 2)) 0 (clm (0 + ow S c0 - 0) 0 A.1, va_up A.2.2.2.2.1 1 true, A.2.2.2.2.2)).1, A.2.1, A.2.2.1, A.2.2.2.1, (ssg (inw S (c0 + 2)) (inw S (c0 + 2)) 0 (clm (0 + ow S c0 - 0) 0 A.1, va_up A.2.2.2.2.1 1 true, A.2.2.2.2.2)).2.1, (ssg (inw S (c0 + 2)) (inw S (c0 + 2)) 0 (clm (0 + ow S c0 - 0) 0 A.1, va_up A.2.2.2.2.1 1 true, A.2.2.2.2.2)).2.2, 0, 0))
def bzl (ft tv gp : Nat → Int32) (S : PS) (c0 : Nat) (A : T6) : Bool × LZ := lay ft tv gp S (2 + inw S (c0 + 2)) 8 c0 0 (bz0 S c0 A)
/-- what holds of a board's rows at all times -/
def BIZ (A : T6) : Prop := (∀ i v, A.1 i = .inl v → v < 8000) ∧ (∀ i v, A.1 i = .inr v → v < 430) ∧ (∀ x, A.2.2.1 x < 8000) ∧ (∀ x, A.2.2.2.1 x < 8000) ∧ A.2.2.2.2.1 0 = false ∧ A.2.2.2.2.2 0 = 2 ∧ A.2.2.2.2.2 1 = 2
/-- the rows of a layout -/
def zt (Z : LZ) : T6 := (Z.2.1, Z.2.2.1, Z.2.2.2.1, Z.2.2.2.2.1, Z.2.2.2.2.2.1, Z.2.2.2.2.2.2.1)
section BZS
variable {ft tv gp : Nat → Int32} {S : PS} {c0 : Nat} {A : T6}
theorem lns_q {Q : Nat ⊕ Nat → Prop} {c bs i pb : Nat} (hs : bs + ow S c ≤ 8000) (hp : pb + pbn S i ≤ 8000) (q1 : ∀ v, v < 8000 → Q (.inl v)) (q2 : ∀ z, z ≤ 1 → Q (.inr z)) : ∀ k l fr, (∀ l', l ≤ l' → l' < l + k → lwf ft gp S c i l') → (∀ x, Q (fr x)) → ∀ x, Q (lns Sum.inl Sum.inr ft tv gp S c bs i pb k l fr x)
  | 0, _, _, _, h => h
  | k + 1, l, fr, wf, h => by
    refine lns_q hs hp q1 q2 k (l + 1) _ (fun l' a b => wf l' (by omega) (by omega)) (fun x => ?_)
    have w := wf l (Nat.le_refl _) (by omega)
    have iw := inw_le S i
    unfold lnw
    rcases e : lio ft gp S i l with _ | _
    · rw [lw_i]
      split
      · split
        · exact q2 _ (by unfold q_cz; split <;> omega)
        · rename_i g cb
          have := w.2.2 (Bool.eq_false_iff.mpr cb)
          exact q1 _ (by omega)
      · exact h x
    · rw [lw_o]
      split
      · have := w.1 e
        exact q1 _ (by omega)
      · exact h x
/-- rows and room -/
def BIL (fg : Nat) (Z : LZ) : Prop := BIZ (zt Z) ∧ lyb Z ∧ Z.2.2.2.2.2.1 1 = true ∧ ∀ x, x < fg → Z.2.2.2.2.2.2.1 x = 2
theorem ly1_bi {fg : Nat} {rec_ : Nat → Nat → LZ → Bool × LZ} (wf : WFS ft gp S) (hfg : 2 ≤ fg ∧ fg ≤ 130) (hrec : ∀ c bs Z, c < S.1 15 → bs + ow S c ≤ Z.1 → BIL fg Z → BIL fg (rec_ c bs Z).2 ∧ Z.1 ≤ (rec_ c bs Z).2.1) {c bs q : Nat} {Z : LZ} (hc : c < S.1 15) (hq : ptc S c q) (hb : bs + ow S c ≤ Z.1) (h : BIL fg Z) : BIL fg (ly1 ft tv gp S rec_ fg c bs q Z).2 ∧ Z.1 ≤ (ly1 ft tv gp S rec_ fg c bs q Z).2.1 := by
  obtain ⟨w1, w2⟩ := wf c q hc hq
  obtain ⟨⟨b1, b2, b3, b4, b5, b6, b7⟩, ⟨z1, z2⟩, b8, b9⟩ := h
  have eU : ly1 ft tv gp S rec_ fg c bs q Z = if 8000 - Z.1 < pbn S (pty S q) then (false, Z) else if 1 < pty S q then rec_ (pty S q - 2) Z.1 (lyl ft tv gp S c bs q Z) else lyg (pty S q) fg Z.1 (lyl ft tv gp S c bs q Z) := rfl
  rw [eU]
  split
  · exact ⟨⟨⟨b1, b2, b3, b4, b5, b6, b7⟩, ⟨z1, z2⟩, b8, b9⟩, Nat.le_refl _⟩
  rename_i hfit
  have iw := inw_le S (pty S q)
  have eL : lyl ft tv gp S c bs q Z = (Z.1 + pbn S (pty S q), (lns Sum.inl Sum.inr ft tv gp S c bs (pty S q) Z.1 (S.2.2.1 26 (q + 1) - S.2.2.1 26 q) (S.2.2.1 26 q) (clm (Z.1 + pbn S (pty S q) - Z.1) Z.1 Z.2.1), Z.2.2)) := by
    have e := jls_lns (tv := tv) (c := c) (bs := bs) (i := pty S q) (pb := Z.1) (nb := Z.1 + pbn S (pty S q)) (by omega) (Nat.le_refl _) (S.2.2.1 26 (q + 1) - S.2.2.1 26 q) (S.2.2.1 26 q) (clm (Z.1 + pbn S (pty S q) - Z.1) Z.1 Z.2.1) (fun l' x y => w2 l' x (by omega))
    rw [← e]; rfl
  have fq := lns_q (tv := tv) (bs := bs) (pb := Z.1) (Q := fun v => (∀ w, v = .inl w → w < 8000) ∧ ∀ w, v = .inr w → w < 430) (by omega) (by omega) (fun v hv => ⟨fun w e => by cases e; exact hv, fun w e => by cases e⟩) (fun z hz => ⟨fun w e => (by cases e), fun w e => (by cases e; omega)⟩) (S.2.2.1 26 (q + 1) - S.2.2.1 26 q) (S.2.2.1 26 q) (clm (Z.1 + pbn S (pty S q) - Z.1) Z.1 Z.2.1) (fun l' x y => w2 l' x (by omega)) (fun x => by
    rw [clm_x]
    split
    · exact ⟨fun w e => (by cases e), fun w e => (by cases e; decide)⟩
    · exact ⟨b1 x, b2 x⟩)
  rw [eL]
  generalize lns Sum.inl Sum.inr ft tv gp S c bs (pty S q) Z.1 (S.2.2.1 26 (q + 1) - S.2.2.1 26 q) (S.2.2.1 26 q) (clm (Z.1 + pbn S (pty S q) - Z.1) Z.1 Z.2.1) = F1 at fq
  have bl : BIL fg (Z.1 + pbn S (pty S q), (F1, Z.2.2)) := ⟨⟨fun i v => (fq i).1 v, fun i v => (fq i).2 v, b3, b4, b5, b6, b7⟩, ⟨by show Z.1 + _ ≤ 8000; omega, z2⟩, b8, b9⟩
  split
  · rename_i c1
    have po : pbn S (pty S q) = ow S (pty S q - 2) := by unfold pbn; rw [if_pos c1]
    have r := hrec (pty S q - 2) Z.1 (Z.1 + pbn S (pty S q), (F1, Z.2.2)) (by omega) (by rw [po]; exact Nat.le_refl _) bl
    exact ⟨r.1, Nat.le_trans (Nat.le_add_right _ _) r.2⟩
  · rename_i c1
    have iwg : inw S (pty S q) = if pty S q = 0 then 2 else 1 := by unfold inw; rw [if_neg c1]
    have pg := pbn_g S (i := pty S q) (by omega)
    unfold lyg
    split
    · rename_i n3
      have n3 : Z.2.2.2.2.2.2.2.2 < 300 := n3
      refine ⟨⟨⟨fun i v e => ?_, fun i v e => ?_, fun x => ?_, fun x => ?_, ?_, ?_, ?_⟩, ⟨bl.2.1.1, ?_⟩, ?_, fun x hx => ?_⟩, Nat.le_add_right _ _⟩
      · have e : (if Z.1 + (if pty S q = 0 then 2 else 1) < Z.1 + pbn S (pty S q) then va_up F1 (Z.1 + (if pty S q = 0 then 2 else 1)) (.inr (fg + Z.2.2.2.2.2.2.2.2)) else F1) i = .inl v := e
        rw [← iwg, if_pos (by omega)] at e
        unfold va_up at e
        split at e
        · cases e
        · exact (fq i).1 v e
      · have e : (if Z.1 + (if pty S q = 0 then 2 else 1) < Z.1 + pbn S (pty S q) then va_up F1 (Z.1 + (if pty S q = 0 then 2 else 1)) (.inr (fg + Z.2.2.2.2.2.2.2.2)) else F1) i = .inr v := e
        rw [← iwg, if_pos (by omega)] at e
        unfold va_up at e
        split at e
        · cases e; omega
        · exact (fq i).2 v e
      · show va_up Z.2.2.2.1 Z.2.2.2.2.2.2.2.2 Z.1 x < 8000
        unfold va_up
        split
        · omega
        · exact b3 x
      · show va_up Z.2.2.2.2.1 Z.2.2.2.2.2.2.2.2 (Z.1 + (if pty S q = 0 then 2 else 1) - 1) x < 8000
        unfold va_up
        split
        · omega
        · exact b4 x
      · show va_up Z.2.2.2.2.2.1 (fg + Z.2.2.2.2.2.2.2.2) false 0 = false
        rw [va_up_ne _ _ (by omega)]; exact b5
      · show va_up Z.2.2.2.2.2.2.1 (fg + Z.2.2.2.2.2.2.2.2) _ 0 = 2
        rw [va_up_ne _ _ (by omega)]; exact b6
      · show va_up Z.2.2.2.2.2.2.1 (fg + Z.2.2.2.2.2.2.2.2) _ 1 = 2
        rw [va_up_ne _ _ (by omega)]; exact b7
      · show Z.2.2.2.2.2.2.2.2 + 1 ≤ 300
        omega
      · show va_up Z.2.2.2.2.2.1 (fg + Z.2.2.2.2.2.2.2.2) false 1 = true
        rw [va_up_ne _ _ (by omega)]; exact b8
      · show va_up Z.2.2.2.2.2.2.1 (fg + Z.2.2.2.2.2.2.2.2) _ x = 2
        rw [va_up_ne _ _ (by omega)]; exact b9 x hx
    · exact ⟨bl, Nat.le_add_right _ _⟩
theorem lay_bi {fg : Nat} (wf : WFS ft gp S) (hfg : 2 ≤ fg ∧ fg ≤ 130) : ∀ d c bs Z, c < S.1 15 → bs + ow S c ≤ Z.1 → BIL fg Z → BIL fg (lay ft tv gp S fg d c bs Z).2 ∧ Z.1 ≤ (lay ft tv gp S fg d c bs Z).2.1
  | 0, _, _, _, _, _, h => ⟨h, Nat.le_refl _⟩
  | d + 1, c, bs, Z, hc, hb, h => by
    have lp : ∀ k q Z, S.2.2.1 23 c ≤ q → q + k ≤ S.2.2.1 23 c + npt S c → bs + ow S c ≤ Z.1 → BIL fg Z → BIL fg (lyp ft tv gp S (lay ft tv gp S fg d) fg c bs k q Z).2 ∧ Z.1 ≤ (lyp ft tv gp S (lay ft tv gp S fg d) fg c bs k q Z).2.1 := by
      intro k
      induction k with
      | zero => intro q Z _ _ _ h; exact ⟨h, Nat.le_refl _⟩
      | succ k ih =>
        intro q Z h1 h2 h3 h
        have o := ly1_bi (tv := tv) (bs := bs) wf hfg (lay_bi wf hfg d) hc (npt_p h1 (by omega)) h3 h
        show BIL fg (if (ly1 ft tv gp S (lay ft tv gp S fg d) fg c bs q Z).1 = true then lyp ft tv gp S (lay ft tv gp S fg d) fg c bs k (q + 1) (ly1 ft tv gp S (lay ft tv gp S fg d) fg c bs q Z).2 else ly1 ft tv gp S (lay ft tv gp S fg d) fg c bs q Z).2 ∧ Z.1 ≤ (if (ly1 ft tv gp S (lay ft tv gp S fg d) fg c bs q Z).1 = true then lyp ft tv gp S (lay ft tv gp S fg d) fg c bs k (q + 1) (ly1 ft tv gp S (lay ft tv gp S fg d) fg c bs q Z).2 else ly1 ft tv gp S (lay ft tv gp S fg d) fg c bs q Z).2.1
        split
        · have r := ih (q + 1) _ (by omega) (by omega) (by omega) o.1
          exact ⟨r.1, by omega⟩
        · exact o
    exact lp (npt S c) (S.2.2.1 23 c) Z (Nat.le_refl _) (Nat.le_refl _) hb h
theorem bz0_x (h : BIZ A) (hi : inw S (c0 + 2) ≤ 128) (ho : ow S c0 ≤ 8000) : BIL (2 + inw S (c0 + 2)) (bz0 S c0 A) ∧ (∀ j, j < inw S (c0 + 2) → (bz0 S c0 A).2.1 j = .inr (2 + j)) ∧ ∀ j, inw S (c0 + 2) ≤ j → j < ow S c0 → (bz0 S c0 A).2.1 j = .inr 0 := by
  obtain ⟨b1, b2, b3, b4, b5, b6, b7⟩ := h
  have sx := ssg_x (ib := inw S (c0 + 2)) (inw S (c0 + 2)) 0 (clm (0 + ow S c0 - 0) 0 A.1, va_up A.2.2.2.2.1 1 true, A.2.2.2.2.2)
  have f1 : ∀ x, (bz0 S c0 A).2.1 x = if x < inw S (c0 + 2) then .inr (2 + x) else if x < ow S c0 then .inr 0 else A.1 x := fun x => by
    refine (sx x).1.trans ?_
    show (if 0 ≤ x ∧ x < 0 + inw S (c0 + 2) then Sum.inr (2 + x) else clm (0 + ow S c0 - 0) 0 A.1 x) = _
    rw [clm_x]
    by_cases z : x < inw S (c0 + 2)
    · rw [if_pos z, if_pos (by omega)]
    · rw [if_neg z, if_neg (by omega)]
      by_cases w : x < ow S c0
      · rw [if_pos w, if_pos (by omega)]
      · rw [if_neg w, if_neg (by omega)]
  refine ⟨⟨⟨fun i v e => ?_, fun i v e => ?_, b3, b4, ?_, ?_, ?_⟩, ⟨ho, Nat.zero_le _⟩, ?_, fun x hx => ?_⟩, fun j hj => by rw [f1, if_pos hj], fun j j1 j2 => by rw [f1, if_neg (by omega), if_pos j2]⟩
  · have e : (bz0 S c0 A).2.1 i = .inl v := e
    rw [f1] at e
    split at e
    · cases e
    · split at e
      · cases e
      · exact b1 i v e
  · have e : (bz0 S c0 A).2.1 i = .inr v := e
    rw [f1] at e
    split at e
    · cases e; omega
    · split at e
      · cases e; decide
      · exact b2 i v e
  · refine (sx 0).2.1.trans ?_
    rw [if_neg (by omega)]
    show va_up A.2.2.2.2.1 1 true 0 = false
    rw [va_up_ne _ _ (by decide)]; exact b5
  · refine (sx 0).2.2.trans ?_
    rw [if_neg (by omega)]; exact b6
  · refine (sx 1).2.2.trans ?_
    rw [if_neg (by omega)]; exact b7
  · refine (sx 1).2.1.trans ?_
    rw [if_neg (by omega)]
    show va_up A.2.2.2.2.1 1 true 1 = true
    exact va_up_self _ _ _
  · refine (sx x).2.2.trans ?_
    by_cases z : 2 ≤ x
    · rw [if_pos (by omega)]
    · rw [if_neg (by omega)]
      rcases (show x = 0 ∨ x = 1 by omega) with q | q
      · rw [q]; exact b6
      · rw [q]; exact b7
theorem LAF.b0 {X : Type} {eb ec : Nat → X} {e0 : X} {b g : List Nat → Nat} {fr : Nat → X} {n0 n1 g0 g1 : Nat} {K : Nat → Nat → Nat → Prop} {z : Nat} (h : LAF eb ec e0 ft tv gp S (vin S c0) b g fr n0 n1 g0 g1 K) : LAF eb ec e0 ft tv gp S (vin S c0) (fun s => if s = [] then z else b s) g fr n0 n1 g0 g1 K := by
  obtain ⟨⟨a1, a2, a3⟩, a4⟩ := h
  refine ⟨⟨fun s hs => ?_, fun s s' hs hs' => ?_, a3⟩, fun s hs c e => ?_⟩
  · simp only [if_neg hs.1]; exact a1 s hs
  · simp only [if_neg hs.1, if_neg hs'.1]; exact a2 s s' hs hs'
  · show CHF eb ec e0 ft tv gp S c (if s = [] then z else b s) (fun q => if s ++ [q] = [] then z else b (s ++ [q])) fr
    rw [if_neg hs.1]
    exact (a4 s hs c e).cg (fun _ _ _ => rfl) (fun _ _ _ _ => rfl) (fun q _ => by rw [if_neg (by simp)])
/-- the class's layout, whole -/
theorem bzl_ltf (wf : WFS ft gp S) (m23 : ∀ c, c < S.1 15 → S.2.2.1 23 c ≤ S.2.2.1 23 (c + 1)) (h0 : c0 < S.1 15) (h : BIZ A) (hi : inw S (c0 + 2) ≤ 128) (ho : ow S c0 ≤ 8000) (ht : (bzl ft tv gp S c0 A).1 = true) :
    ∃ b g, LTF Sum.inl Sum.inr (Sum.inr 0) ft tv gp S c0 b g (bzl ft tv gp S c0 A).2.2.1 (bzl ft tv gp S c0 A).2.1 (bzl ft tv gp S c0 A).2.2.2.2.2.2.2.2.2 (KGC S (2 + inw S (c0 + 2)) (bzl ft tv gp S c0 A).2) ∧ (∀ j, j < inw S (c0 + 2) → (bzl ft tv gp S c0 A).2.2.1 j = .inr (2 + j)) ∧ BIL (2 + inw S (c0 + 2)) (bzl ft tv gp S c0 A).2 ∧ (bzl ft tv gp S c0 A).2.2.2.2.2.2.1 0 = false ∧ ∀ j, j < inw S (c0 + 2) → (bzl ft tv gp S c0 A).2.2.2.2.2.2.1 (2 + j) = false := by
  obtain ⟨x1, x2, x3⟩ := bz0_x (S := S) (c0 := c0) h hi ho
  have iwo : inw S (c0 + 2) ≤ ow S c0 := by have := inw_le S (c0 + 2); unfold pbn at this; rw [if_pos (by omega)] at this; exact this
  have r := lay_laf (tv := tv) (fg := 2 + inw S (c0 + 2)) wf m23 8 c0 0 (bz0 S c0 A) (bzl ft tv gp S c0 A).2 h0 x1.2.1 (by show 0 + ow S c0 ≤ ow S c0; omega) (fun j j1 j2 => by rw [Nat.zero_add]; exact x3 j j1 j2) (Prod.ext ht rfl)
  obtain ⟨b, g, a1, a2, a3⟩ := r
  have bi := (lay_bi (tv := tv) wf ⟨by omega, by omega⟩ 8 c0 0 (bz0 S c0 A) h0 (by show 0 + ow S c0 ≤ ow S c0; omega) x1).1
  refine ⟨fun s => if s = [] then 0 else b s, g, ⟨if_pos rfl, a3.1.1, LAF.b0 a1, a2.cg (fun _ _ _ => rfl) (fun _ _ _ _ => rfl) (fun q _ => if_neg (List.cons_ne_nil _ _))⟩, fun j hj => ?_, bi, bi.1.2.2.2.2.1, fun j hj => ?_⟩
  · rw [a3.2.1 j (by show j < ow S c0; omega) (by omega)]; exact x2 j hj
  · rw [(a3.2.2.2 (2 + j) (by show 2 + j < 2 + inw S (c0 + 2) + 0; omega)).1]
    refine (ssg_x (ib := inw S (c0 + 2)) (inw S (c0 + 2)) 0 _ (2 + j)).2.1.trans ?_
    rw [if_pos (by omega)]
theorem fsg_x {c : Nat → Nat ⊕ Nat} {nb : Nat} : ∀ k i T n, (fsg c nb k i T).1 n = (if i ≤ n ∧ n < i + k then sgo c nb (T.1 n) else T.1 n) ∧ (fsg c nb k i T).2 n = (if i ≤ n ∧ n < i + k then sgo c nb (T.2 n) else T.2 n)
  | 0, i, T, n => by rw [if_neg (by omega), if_neg (by omega)]; exact ⟨rfl, rfl⟩
  | k + 1, i, T, n => by
    have r := fsg_x (c := c) (nb := nb) k (i + 1) (va_up T.1 i (sgo c nb (T.1 i)), va_up T.2 i (sgo c nb (T.2 i))) n
    have e : fsg c nb (k + 1) i T = fsg c nb k (i + 1) (va_up T.1 i (sgo c nb (T.1 i)), va_up T.2 i (sgo c nb (T.2 i))) := rfl
    rw [e]
    by_cases z : n = i
    · rw [if_neg (by omega), if_neg (by omega)] at r
      rw [if_pos (by omega), if_pos (by omega), z]
      rw [z] at r
      exact ⟨r.1.trans (va_up_self _ _ _), r.2.trans (va_up_self _ _ _)⟩
    · have v1 : (va_up T.1 i (sgo c nb (T.1 i)), va_up T.2 i (sgo c nb (T.2 i))).1 n = T.1 n := va_up_ne _ _ z
      have v2 : (va_up T.1 i (sgo c nb (T.1 i)), va_up T.2 i (sgo c nb (T.2 i))).2 n = T.2 n := va_up_ne _ _ z
      rw [v1, v2] at r
      by_cases q : i ≤ n ∧ n < i + (k + 1)
      · rw [if_pos (show i + 1 ≤ n ∧ n < i + 1 + k by omega), if_pos (show i + 1 ≤ n ∧ n < i + 1 + k by omega)] at r
        rw [if_pos q, if_pos q]; exact r
      · rw [if_neg (show ¬ (i + 1 ≤ n ∧ n < i + 1 + k) by omega), if_neg (show ¬ (i + 1 ≤ n ∧ n < i + 1 + k) by omega)] at r
        rw [if_neg q, if_neg q]; exact r
end BZS
