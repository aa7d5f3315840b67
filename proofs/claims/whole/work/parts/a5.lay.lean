/-! The class's layout -/
abbrev T8 : Type := (Nat → Nat ⊕ Nat) × (Nat → Bool) × (Nat → Nat) × (Nat → Nat) × (Nat → Bool) × (Nat → Nat) × Nat × Nat
/-- bits so far; sources, gates .. -/
abbrev LZ : Type := Nat × T8
/-- the bits of part q are claimed, its links tied -/
def lyl (ft tv gp : Nat → Int32) (S : PS) (c bs q : Nat) (Z : LZ) : LZ := (Z.1 + pbn S ((S.2.2.2.1 44 q).getD 0), (jls ft tv gp S c bs ((S.2.2.2.1 44 q).getD 0) Z.1 (Z.1 + pbn S ((S.2.2.2.1 44 q).getD 0)) (S.2.2.1 26 (q + 1) - S.2.2.1 26 q) (S.2.2.1 26 q) (clm (Z.1 + pbn S ((S.2.2.2.1 44 q).getD 0) - Z.1) Z.1 Z.2.1), Z.2.2))
def lyg (i fg st : Nat) (Z : LZ) : Bool × LZ := if Z.2.2.2.2.2.2.2.2 < 300 then (true, (Z.1, agt (decide (i = 1)) (if i = 0 then 2 else 1) st Z.1 fg Z.2)) else (false, Z)
def ly1 (ft tv gp : Nat → Int32) (S : PS) (rec_ : Nat → Nat → LZ → Bool × LZ) (fg c bs q : Nat) (Z : LZ) : Bool × LZ := if 8000 - Z.1 < pbn S ((S.2.2.2.1 44 q).getD 0) then (false, Z) else if 1 < (S.2.2.2.1 44 q).getD 0 then rec_ ((S.2.2.2.1 44 q).getD 0 - 2) Z.1 (lyl ft tv gp S c bs q Z) else lyg ((S.2.2.2.1 44 q).getD 0) fg Z.1 (lyl ft tv gp S c bs q Z)
def lyp (ft tv gp : Nat → Int32) (S : PS) (rec_ : Nat → Nat → LZ → Bool × LZ) (fg c bs : Nat) : Nat → Nat → LZ → Bool × LZ
  | 0, _, Z => (true, Z)
  | k + 1, q, Z => if (ly1 ft tv gp S rec_ fg c bs q Z).1 = true then lyp ft tv gp S rec_ fg c bs k (q + 1) (ly1 ft tv gp S rec_ fg c bs q Z).2 else ly1 ft tv gp S rec_ fg c bs q Z
theorem lyp_u (ft tv gp : Nat → Int32) (S : PS) (rec_ : Nat → Nat → LZ → Bool × LZ) (fg c bs n q : Nat) (Z : LZ) : lyp ft tv gp S rec_ fg c bs (n - q) q Z = if q < n then (if (ly1 ft tv gp S rec_ fg c bs q Z).1 = true then lyp ft tv gp S rec_ fg c bs (n - (q + 1)) (q + 1) (ly1 ft tv gp S rec_ fg c bs q Z).2 else ly1 ft tv gp S rec_ fg c bs q Z) else (true, Z) := by
  by_cases h : q < n
  · rw [if_pos h, show n - q = (n - (q + 1)) + 1 by omega]; rfl
  · rw [if_neg h, show n - q = 0 by omega]; rfl
def lay (ft tv gp : Nat → Int32) (S : PS) (fg : Nat) : Nat → Nat → Nat → LZ → Bool × LZ
  | 0, _, _, Z => (false, Z)
  | d + 1, c, bs, Z => lyp ft tv gp S (lay ft tv gp S fg d) fg c bs (S.2.2.1 23 (c + 1) - S.2.2.1 23 c) (S.2.2.1 23 c) Z
/-- bits and gates stay within their rows -/
def lyb (Z : LZ) : Prop := Z.1 ≤ 8000 ∧ Z.2.2.2.2.2.2.2.2 ≤ 300
theorem ly1_b {ft tv gp : Nat → Int32} {S : PS} {rec_ : Nat → Nat → LZ → Bool × LZ} {fg c bs q : Nat} {Z : LZ} (hr : ∀ c bs Z, lyb Z → lyb (rec_ c bs Z).2) (h : lyb Z) : lyb (ly1 ft tv gp S rec_ fg c bs q Z).2 := by
  unfold ly1
  split
  · exact h
  · rename_i q8
    have b : lyb (lyl ft tv gp S c bs q Z) := ⟨by show Z.1 + _ ≤ 8000; have := h.1; omega, h.2⟩
    split
    · exact hr _ _ _ b
    · unfold lyg
      split
      · refine ⟨b.1, ?_⟩
        show (lyl ft tv gp S c bs q Z).2.2.2.2.2.2.2.2 + 1 ≤ 300
        omega
      · exact b
theorem lyp_b {ft tv gp : Nat → Int32} {S : PS} {rec_ : Nat → Nat → LZ → Bool × LZ} {fg c bs : Nat} (hr : ∀ c bs Z, lyb Z → lyb (rec_ c bs Z).2) : ∀ k q Z, lyb Z → lyb (lyp ft tv gp S rec_ fg c bs k q Z).2
  | 0, _, _, h => h
  | k + 1, q, Z, h => by
    have b := ly1_b (ft := ft) (tv := tv) (gp := gp) (S := S) (fg := fg) (c := c) (bs := bs) (q := q) hr h
    show lyb (if (ly1 ft tv gp S rec_ fg c bs q Z).1 = true then lyp ft tv gp S rec_ fg c bs k (q + 1) (ly1 ft tv gp S rec_ fg c bs q Z).2 else ly1 ft tv gp S rec_ fg c bs q Z).2
    split
    · exact lyp_b hr k (q + 1) _ b
    · exact b
theorem lay_b {ft tv gp : Nat → Int32} {S : PS} {fg : Nat} : ∀ d c bs Z, lyb Z → lyb (lay ft tv gp S fg d c bs Z).2
  | 0, _, _, _, h => h
  | d + 1, c, bs, Z, h => lyp_b (lay_b d) _ _ _ h
