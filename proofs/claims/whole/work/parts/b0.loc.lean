/-! The layout of one chip, whichever side lays it: what its links tie -/
section LWS
variable {X : Type}
/-- the bits of a link are written: eb a bit, ec a constant -/
def lw (eb ec : Nat → X) (io cb : Bool) (z lf rt : Nat) : Nat → Nat → (Nat → X) → (Nat → X)
  | 0, _, fr => fr
  | n + 1, k, fr => lw eb ec io cb z lf rt n (k + 1) (if io = true then va_up fr (rt + k) (eb (lf + k)) else va_up fr (lf + k) (if cb = true then ec z else eb (rt + k)))
theorem lw_o {eb ec : Nat → X} {cb : Bool} {z lf rt x : Nat} : ∀ n k fr, lw eb ec true cb z lf rt n k fr x = if rt + k ≤ x ∧ x < rt + k + n then eb (lf + (x - rt)) else fr x
  | 0, k, fr => by rw [if_neg (by omega)]; rfl
  | n + 1, k, fr => by
    show lw eb ec true cb z lf rt n (k + 1) (va_up fr (rt + k) (eb (lf + k))) x = _
    rw [lw_o n (k + 1)]
    by_cases e : x = rt + k
    · rw [if_neg (by omega), if_pos (by omega), e, va_up_self, show lf + (rt + k - rt) = lf + k by omega]
    · rw [va_up_ne _ _ e]
      by_cases q : rt + k ≤ x ∧ x < rt + k + (n + 1)
      · rw [if_pos q, if_pos (by omega)]
      · rw [if_neg q, if_neg (by omega)]
theorem lw_i {eb ec : Nat → X} {cb : Bool} {z lf rt x : Nat} : ∀ n k fr, lw eb ec false cb z lf rt n k fr x = if lf + k ≤ x ∧ x < lf + k + n then (if cb = true then ec z else eb (rt + (x - lf))) else fr x
  | 0, k, fr => by rw [if_neg (by omega)]; rfl
  | n + 1, k, fr => by
    show lw eb ec false cb z lf rt n (k + 1) (va_up fr (lf + k) (if cb = true then ec z else eb (rt + k))) x = _
    rw [lw_i n (k + 1)]
    by_cases e : x = lf + k
    · subst e; rw [if_neg (by omega), va_up_self, if_pos (show lf + k ≤ lf + k ∧ lf + k < lf + k + (n + 1) by omega), show rt + (lf + k - lf) = rt + k by omega]
    · rw [va_up_ne _ _ e]
      by_cases q : lf + k ≤ x ∧ x < lf + k + (n + 1)
      · rw [if_pos q, if_pos (by omega)]
      · rw [if_neg q, if_neg (by omega)]
end LWS
/-- the bits that a type's IN pins have -/
def inw (S : PS) (i : Nat) : Nat := if 1 < i then m_psum (S.2.2.1 21) (icn (S.2.2.2.2 19) (S.2.2.1 17 (i - 2)) (S.2.2.1 17 (i - 2 + 1) - S.2.2.1 17 (i - 2))) (S.2.2.1 17 (i - 2)) 0 else if i = 0 then 2 else 1
def lxx (ft gp : Nat → Int32) (S : PS) (i l : Nat) : Nat := (q_pin ft gp S i (S.2.2.1 28 l)).getD 0
def lio (ft gp : Nat → Int32) (S : PS) (i l : Nat) : Bool := m_isOut (S.2.2.2.2 19) i (lxx ft gp S i l)
def llf (ft gp : Nat → Int32) (S : PS) (i l : Nat) : Nat := q_lf S i (lxx ft gp S i l) 0 l
def lrt (ft : Nat → Int32) (S : PS) (c l : Nat) : Nat := q_rt ft S c 0 l
def lmb (ft gp : Nat → Int32) (S : PS) (i l : Nat) : Nat := q_mb S i (lxx ft gp S i l) l
/-- link l, of a part that is i in chip c, stays within the bits that are there -/
def lwf (ft gp : Nat → Int32) (S : PS) (c i l : Nat) : Prop := (lio ft gp S i l = true → q_cb S l = false ∧ inw S (c + 2) ≤ lrt ft S c l ∧ inw S i ≤ llf ft gp S i l ∧ llf ft gp S i l + lmb ft gp S i l ≤ pbn S i) ∧ (lio ft gp S i l = false → llf ft gp S i l + lmb ft gp S i l ≤ inw S i) ∧ (q_cb S l = false → lrt ft S c l + lmb ft gp S i l ≤ ow S c)
/-- what feeds a chip's own bits: a part's bit; what feeds a part's bit: a bit of the chip, or a constant -/
abbrev TA := Nat → Option (Nat × Nat)
abbrev TB := Nat → Option (Nat ⊕ Nat)
def u1 (ft gp : Nat → Int32) (S : PS) (c i q l : Nat) (T : TA) : TA := fun j => if lio ft gp S i l = true ∧ lrt ft S c l ≤ j ∧ j < lrt ft S c l + lmb ft gp S i l then some (q, llf ft gp S i l + (j - lrt ft S c l)) else T j
def u2 (ft tv gp : Nat → Int32) (S : PS) (c i l : Nat) (T : TB) : TB := fun j => if lio ft gp S i l = false ∧ llf ft gp S i l ≤ j ∧ j < llf ft gp S i l + lmb ft gp S i l then some (if q_cb S l = true then .inr (q_cz tv S l) else .inl (lrt ft S c l + (j - llf ft gp S i l))) else T j
def v1 (ft gp : Nat → Int32) (S : PS) (c i q : Nat) : Nat → Nat → TA → TA
  | 0, _, T => T
  | k + 1, l, T => v1 ft gp S c i q k (l + 1) (u1 ft gp S c i q l T)
def v2 (ft tv gp : Nat → Int32) (S : PS) (c i : Nat) : Nat → Nat → TB → TB
  | 0, _, T => T
  | k + 1, l, T => v2 ft tv gp S c i k (l + 1) (u2 ft tv gp S c i l T)
/-- the type of part q -/
def pty (S : PS) (q : Nat) : Nat := (S.2.2.2.1 44 q).getD 0
def w1 (ft gp : Nat → Int32) (S : PS) (c : Nat) : Nat → Nat → TA → TA
  | 0, _, T => T
  | k + 1, q, T => w1 ft gp S c k (q + 1) (v1 ft gp S c (pty S q) q (S.2.2.1 26 (q + 1) - S.2.2.1 26 q) (S.2.2.1 26 q) T)
/-- a chip's tables -/
def ta (ft gp : Nat → Int32) (S : PS) (c : Nat) : TA := w1 ft gp S c (S.2.2.1 23 (c + 1) - S.2.2.1 23 c) (S.2.2.1 23 c) (fun _ => none)
def tb_ (ft tv gp : Nat → Int32) (S : PS) (c q : Nat) : TB := v2 ft tv gp S c (pty S q) (S.2.2.1 26 (q + 1) - S.2.2.1 26 q) (S.2.2.1 26 q) (fun _ => none)
section LOC_
variable {X : Type} {eb ec : Nat → X} {e0 : X} {ft tv gp : Nat → Int32} {S : PS} {c i q l bs pb : Nat} {b : Nat → Nat}
def en1 (eb : Nat → X) (e0 : X) (b : Nat → Nat) (o : Option (Nat × Nat)) : X := match o with
  | none => e0
  | some z => eb (b z.1 + z.2)
def en2 (eb ec : Nat → X) (e0 : X) (bs : Nat) (o : Option (Nat ⊕ Nat)) : X := match o with
  | none => e0
  | some (.inl r) => eb (bs + r)
  | some (.inr z) => ec z
/-- one link of both sides -/
def lnw (eb ec : Nat → X) (ft tv gp : Nat → Int32) (S : PS) (c bs i pb l : Nat) (fr : Nat → X) : Nat → X := lw eb ec (lio ft gp S i l) (q_cb S l) (q_cz tv S l) (pb + llf ft gp S i l) (bs + lrt ft S c l) (lmb ft gp S i l) 0 fr
def lns (eb ec : Nat → X) (ft tv gp : Nat → Int32) (S : PS) (c bs i pb : Nat) : Nat → Nat → (Nat → X) → (Nat → X)
  | 0, _, fr => fr
  | k + 1, l, fr => lns eb ec ft tv gp S c bs i pb k (l + 1) (lnw eb ec ft tv gp S c bs i pb l fr)
/-- the chip's own bits behind its IN pins, and the IN bits of part q -/
def R1 (eb : Nat → X) (e0 : X) (b : Nat → Nat) (S : PS) (c bs : Nat) (T : TA) (fr : Nat → X) : Prop := ∀ j, inw S (c + 2) ≤ j → j < ow S c → fr (bs + j) = en1 eb e0 b (T j)
def R2 (eb ec : Nat → X) (e0 : X) (S : PS) (bs i pb : Nat) (T : TB) (fr : Nat → X) : Prop := ∀ j, j < inw S i → fr (pb + j) = en2 eb ec e0 bs (T j)
/-- all else is as before -/
def FRM (S : PS) (c bs i pb : Nat) (fr fr' : Nat → X) : Prop := ∀ x, ¬ (bs + inw S (c + 2) ≤ x ∧ x < bs + ow S c) → ¬ (pb ≤ x ∧ x < pb + inw S i) → fr' x = fr x
theorem lnw_l {T1 : TA} {T2 : TB} {fr : Nat → X} (wf : lwf ft gp S c i l) (hs : bs + ow S c ≤ pb) (hb : b q = pb) (h1 : R1 eb e0 b S c bs T1 fr) (h2 : R2 eb ec e0 S bs i pb T2 fr) :
    R1 eb e0 b S c bs (u1 ft gp S c i q l T1) (lnw eb ec ft tv gp S c bs i pb l fr) ∧ R2 eb ec e0 S bs i pb (u2 ft tv gp S c i l T2) (lnw eb ec ft tv gp S c bs i pb l fr) ∧ FRM S c bs i pb fr (lnw eb ec ft tv gp S c bs i pb l fr) := by
  obtain ⟨wf1, wf2, wf3⟩ := wf
  unfold lnw
  rcases hio : lio ft gp S i l with _ | _
  · have a := wf2 hio
    refine ⟨fun j j1 j2 => ?_, fun j j1 => ?_, fun x x1 x2 => ?_⟩
    · rw [lw_i, if_neg (by omega), h1 j j1 j2]
      unfold u1; rw [if_neg (fun z => by rw [hio] at z; cases z.1)]
    · rw [lw_i]
      unfold u2
      by_cases e : llf ft gp S i l ≤ j ∧ j < llf ft gp S i l + lmb ft gp S i l
      · rw [if_pos (show pb + llf ft gp S i l + 0 ≤ pb + j ∧ pb + j < pb + llf ft gp S i l + 0 + lmb ft gp S i l by omega), if_pos (show lio ft gp S i l = false ∧ llf ft gp S i l ≤ j ∧ j < llf ft gp S i l + lmb ft gp S i l from ⟨hio, e⟩)]
        by_cases cb : q_cb S l = true
        · rw [if_pos cb, if_pos cb]; rfl
        · rw [if_neg cb, if_neg cb]
          show _ = eb (bs + (lrt ft S c l + (j - llf ft gp S i l)))
          congr 1; omega
      · rw [if_neg (by omega), if_neg (fun z => e z.2)]; exact h2 j j1
    · rw [lw_i, if_neg (by omega)]
  · obtain ⟨a1, a2, a3, a4⟩ := wf1 hio
    have a5 := wf3 a1
    refine ⟨fun j j1 j2 => ?_, fun j j1 => ?_, fun x x1 x2 => ?_⟩
    · rw [lw_o]
      unfold u1
      by_cases e : lrt ft S c l ≤ j ∧ j < lrt ft S c l + lmb ft gp S i l
      · rw [if_pos (by omega), if_pos ⟨hio, e⟩]
        show _ = eb (b q + (llf ft gp S i l + (j - lrt ft S c l)))
        rw [hb]; congr 1; omega
      · rw [if_neg (by omega), if_neg (fun z => e z.2)]; exact h1 j j1 j2
    · rw [lw_o, if_neg (by omega), h2 j j1]
      unfold u2; rw [if_neg (fun z => by rw [hio] at z; cases z.1)]
    · rw [lw_o, if_neg (by omega)]
theorem FRM.tr {fr fr1 fr2 : Nat → X} (h : FRM S c bs i pb fr fr1) (g : FRM S c bs i pb fr1 fr2) : FRM S c bs i pb fr fr2 := fun x a d => (g x a d).trans (h x a d)
theorem lns_l (hs : bs + ow S c ≤ pb) (hb : b q = pb) : ∀ k l T1 T2 fr, (∀ l', l ≤ l' → l' < l + k → lwf ft gp S c i l') → R1 eb e0 b S c bs T1 fr → R2 eb ec e0 S bs i pb T2 fr →
    R1 eb e0 b S c bs (v1 ft gp S c i q k l T1) (lns eb ec ft tv gp S c bs i pb k l fr) ∧ R2 eb ec e0 S bs i pb (v2 ft tv gp S c i k l T2) (lns eb ec ft tv gp S c bs i pb k l fr) ∧ FRM S c bs i pb fr (lns eb ec ft tv gp S c bs i pb k l fr)
  | 0, _, _, _, _, _, h1, h2 => ⟨h1, h2, fun _ _ _ => rfl⟩
  | k + 1, l, T1, T2, fr, wf, h1, h2 => by
    obtain ⟨a1, a2, a3⟩ := lnw_l (tv := tv) (wf l (Nat.le_refl _) (by omega)) hs hb h1 h2
    obtain ⟨b1, b2, b3⟩ := lns_l hs hb k (l + 1) _ _ _ (fun l' x y => wf l' (by omega) (by omega)) a1 a2
    exact ⟨b1, b2, a3.tr b3⟩
end LOC_
