/-! The checks of the reference, as functions of the state -/
def q_word (row : Nat → Int32) (RR : Nat) (ft : Nat → Int32) (P : PS) (t : Nat) : Option Nat := m_word row ft RR (P.2.2.1 8 t) (P.2.2.1 9 t) RR 0 0
def q_chl (ft : Nat → Int32) (P : PS) (t : Nat) : Nat → Nat → Option Nat → Option Nat
  | 0, _, g => g
  | k + 1, i, g => if g = none then q_chl ft P t k (i + 1) (if m_like ft (P.2.2.1 8) (P.2.2.1 9) (P.2.2.1 16 i) t = true then some (2 + i) else none) else g
theorem q_chl_u (ft : Nat → Int32) (P : PS) (t n i : Nat) (g : Option Nat) : q_chl ft P t (n - i) i g = if i < n then (if g = none then q_chl ft P t (n - (i + 1)) (i + 1) (if m_like ft (P.2.2.1 8) (P.2.2.1 9) (P.2.2.1 16 i) t = true then some (2 + i) else none) else g) else g := by
  by_cases h : i < n
  · rw [if_pos h, show n - i = (n - (i + 1)) + 1 by omega]; rfl
  · rw [if_neg h, show n - i = 0 by omega]; rfl
def q_chip (ft gw : Nat → Int32) (P : PS) (t : Nat) : Option Nat := q_chl ft P t (P.1 15) 0 (q_word gw 9 ft P t)
def q_own (ft : Nat → Int32) (P : PS) (c t : Nat) : Option Nat := m_find ft (P.2.2.1 8) (P.2.2.1 9) (P.2.2.1 20) t (P.2.2.1 17 (c + 1) - P.2.2.1 17 c) (P.2.2.1 17 c)
def q_inn (ft : Nat → Int32) (P : PS) (c t : Nat) : Option Nat := m_find ft (P.2.2.1 8) (P.2.2.1 9) (P.2.2.1 38) t (P.2.2.1 36 (c + 1) - P.2.2.1 36 c) (P.2.2.1 36 c)
def q_pin (ft gp : Nat → Int32) (P : PS) (i t : Nat) : Option Nat :=
  if 1 < i then q_own ft P (i - 2) t else if i = 0 then (if q_word gp 11 ft P t = some 3 then none else q_word gp 11 ft P t) else if q_word gp 11 ft P t = some 3 then some 0 else if q_word gp 11 ft P t = some 2 then some 1 else none
def q_any (g : Nat → Bool) : Nat → Nat → Bool → Bool
  | 0, _, x => x
  | k + 1, i, x => q_any g k (i + 1) (x || g i)
theorem q_any_u (g : Nat → Bool) (n i : Nat) (x : Bool) : q_any g (n - i) i x = if i < n then q_any g (n - (i + 1)) (i + 1) (x || g i) else x := by
  by_cases h : i < n
  · rw [if_pos h, show n - i = (n - (i + 1)) + 1 by omega]; rfl
  · rw [if_neg h, show n - i = 0 by omega]; rfl
/-- checkPins -/
def cp_a (ft : Nat → Int32) (c p : Nat) (P : PS) : PS := if q_any (fun k => m_like ft (P.2.2.1 8) (P.2.2.1 9) (P.2.2.1 20 k) (P.2.2.1 20 p)) (p - P.2.2.1 17 c) (P.2.2.1 17 c) false = true then sp_note 3 (P.2.2.1 20 p) P else P
def cp_b (nv : Nat → Nat) (p : Nat) (P : PS) : PS := match P.2.2.2.1 22 p with
  | none => P
  | some z => if nv z < 1 ∨ 16 < nv z then sp_note 5 z P else P
def cp_pins (ft : Nat → Int32) (nv : Nat → Nat) (c : Nat) : Nat → Nat → PS → PS
  | 0, _, P => P
  | k + 1, p, P => cp_pins ft nv c k (p + 1) (cp_b nv p (cp_a ft c p P))
theorem cp_pins_u (ft : Nat → Int32) (nv : Nat → Nat) (c n p : Nat) (P : PS) : cp_pins ft nv c (n - p) p P = if p < n then cp_pins ft nv c (n - (p + 1)) (p + 1) (cp_b nv p (cp_a ft c p P)) else P := by
  by_cases h : p < n
  · rw [if_pos h, show n - p = (n - (p + 1)) + 1 by omega]; rfl
  · rw [if_neg h, show n - p = 0 by omega]; rfl
def cp_t (ft gw : Nat → Int32) (c : Nat) (P : PS) : PS := if q_any (fun k => m_like ft (P.2.2.1 8) (P.2.2.1 9) (P.2.2.1 16 k) (P.2.2.1 16 c)) c 0 (!decide (q_word gw 9 ft P (P.2.2.1 16 c) = none)) = true then sp_note 3 (P.2.2.1 16 c) P else P
def cp_ch (ft gw : Nat → Int32) (nv : Nat → Nat) (c : Nat) (P : PS) : PS := cp_pins ft nv c (P.2.2.1 17 (c + 1) - P.2.2.1 17 c) (P.2.2.1 17 c) (cp_t ft gw c P)
def cp_all (ft gw : Nat → Int32) (nv : Nat → Nat) : Nat → Nat → PS → PS
  | 0, _, P => P
  | k + 1, c, P => cp_all ft gw nv k (c + 1) (cp_ch ft gw nv c P)
theorem cp_all_u (ft gw : Nat → Int32) (nv : Nat → Nat) (n c : Nat) (P : PS) : cp_all ft gw nv (n - c) c P = if c < n then cp_all ft gw nv (n - (c + 1)) (c + 1) (cp_ch ft gw nv c P) else P := by
  by_cases h : c < n
  · rw [if_pos h, show n - c = (n - (c + 1)) + 1 by omega]; rfl
  · rw [if_neg h, show n - c = 0 by omega]; rfl
/-- findInner -/
def fi_0 : Nat → Nat → PS → PS
  | 0, _, P => P
  | k + 1, i, P => fi_0 k (i + 1) (abs_ (aos P 39 i (some 0)) 40 i false)
theorem fi_0_u (n i : Nat) (P : PS) : fi_0 (n - i) i P = if i < n then fi_0 (n - (i + 1)) (i + 1) (abs_ (aos P 39 i (some 0)) 40 i false) else P := by
  by_cases h : i < n
  · rw [if_pos h, show n - i = (n - (i + 1)) + 1 by omega]; rfl
  · rw [if_neg h, show n - i = 0 by omega]; rfl
/-- how many bits the left side of link l has at pin x of a part that is i; none: its range doesn't fit -/
def q_lb (P : PS) (i x l : Nat) : Option Nat := if m_fits (P.2.2.2.1 29 l) (P.2.2.1 30 l) (P.2.2.1 31 l) (m_wd (P.2.2.1 21) i x) = true then some (m_bits (P.2.2.2.1 29 l) (P.2.2.1 30 l) (P.2.2.1 31 l) (m_wd (P.2.2.1 21) i x)) else none
/-- the inner name on the right of link l -/
def q_ri (ft : Nat → Int32) (P : PS) (c l : Nat) : Option Nat := if P.2.2.1 7 (P.2.2.1 32 l) = 1 then q_inn ft P c (P.2.2.1 32 l) else none
def fi_link (ft gp : Nat → Int32) (c i l : Nat) (P : PS) : PS := match q_pin ft gp P i (P.2.2.1 28 l) with
  | none => P
  | some x => match q_ri ft P c l with
    | none => P
    | some y => if m_isOut (P.2.2.2.2 19) i x = true ∧ P.2.2.2.1 39 y = some 0 then aos P 39 y (q_lb P i x l) else P
def fi_links (ft gp : Nat → Int32) (c i : Nat) : Nat → Nat → PS → PS
  | 0, _, P => P
  | k + 1, l, P => fi_links ft gp c i k (l + 1) (fi_link ft gp c i l P)
theorem fi_links_u (ft gp : Nat → Int32) (c i n l : Nat) (P : PS) : fi_links ft gp c i (n - l) l P = if l < n then fi_links ft gp c i (n - (l + 1)) (l + 1) (fi_link ft gp c i l P) else P := by
  by_cases h : l < n
  · rw [if_pos h, show n - l = (n - (l + 1)) + 1 by omega]; rfl
  · rw [if_neg h, show n - l = 0 by omega]; rfl
def fi_is (ft gw : Nat → Int32) (p : Nat) (P : PS) : PS := aos P 44 p (q_chip ft gw P (P.2.2.1 25 p))
def fi_part (ft gw gp : Nat → Int32) (c p : Nat) (P : PS) : PS := match q_chip ft gw P (P.2.2.1 25 p) with
  | none => fi_is ft gw p P
  | some i => fi_links ft gp c i (P.2.2.1 26 (p + 1) - P.2.2.1 26 p) (P.2.2.1 26 p) (fi_is ft gw p P)
def fi_parts (ft gw gp : Nat → Int32) (c : Nat) : Nat → Nat → PS → PS
  | 0, _, P => P
  | k + 1, p, P => fi_parts ft gw gp c k (p + 1) (fi_part ft gw gp c p P)
theorem fi_parts_u (ft gw gp : Nat → Int32) (c n p : Nat) (P : PS) : fi_parts ft gw gp c (n - p) p P = if p < n then fi_parts ft gw gp c (n - (p + 1)) (p + 1) (fi_part ft gw gp c p P) else P := by
  by_cases h : p < n
  · rw [if_pos h, show n - p = (n - (p + 1)) + 1 by omega]; rfl
  · rw [if_neg h, show n - p = 0 by omega]; rfl
def fi_all (ft gw gp : Nat → Int32) (c : Nat) (P : PS) : PS := fi_parts ft gw gp c (P.2.2.1 23 (c + 1) - P.2.2.1 23 c) (P.2.2.1 23 c) (fi_0 (P.2.2.1 36 (c + 1) - P.2.2.1 36 c) (P.2.2.1 36 c) P)
/-- checkRight -/
def m_set (n i : Nat) : Nat := (2 ^ n - 1) * 2 ^ i
def q_low (o : Option Nat) (i : Nat) : Nat := if o = none then 0 else i
def ci_1 (l : Nat) (P : PS) : PS := match P.2.2.2.1 33 l with
  | none => P
  | some z => sp_note 5 z P
def ci_2 (l y : Nat) (ob : Bool) (P : PS) : PS := if ob = true ∧ P.2.2.2.2 40 y = true then sp_note 3 (P.2.2.1 32 l) P else P
def ci_3 (l y : Nat) (ob : Bool) (P : PS) : PS := if ob = false ∧ P.2.2.2.1 39 y = some 0 then sp_note 4 (P.2.2.1 32 l) P else P
def ci_4 (l y : Nat) (ob : Bool) (bo : Option Nat) (P : PS) : PS := if ob = false ∧ (∃ w, P.2.2.2.1 39 y = some w ∧ 0 < w) ∧ P.2.2.2.1 33 l = none ∧ bo ≠ none ∧ P.2.2.2.1 39 y ≠ bo then sp_note 5 (P.2.2.1 32 l) P else P
def ci_5 (y : Nat) (ob : Bool) (P : PS) : PS := abs_ P 40 y (P.2.2.2.2 40 y || ob)
def cr_in (l y : Nat) (ob : Bool) (bo : Option Nat) (P : PS) : PS := ci_5 y ob (ci_4 l y ob bo (ci_3 l y ob (ci_2 l y ob (ci_1 l P))))
def cq_1 (l x : Nat) (bo : Option Nat) (P : PS) : PS := if bo ≠ none ∧ ¬ bo = some (m_bits (P.2.2.2.1 33 l) (P.2.2.1 34 l) (P.2.2.1 35 l) (P.2.2.1 21 x)) then sp_note 5 (P.2.2.1 32 l) P else P
def q_rs (P : PS) (l x : Nat) : Nat := m_set (m_bits (P.2.2.2.1 33 l) (P.2.2.1 34 l) (P.2.2.1 35 l) (P.2.2.1 21 x)) (q_low (P.2.2.2.1 33 l) (P.2.2.1 34 l))
def cq_2 (l x : Nat) (P : PS) : PS := if P.2.2.1 49 x &&& q_rs P l x = 0 then P else sp_note 3 (P.2.2.1 32 l) P
def cq_3 (l x : Nat) (P : PS) : PS := ars P 49 x (P.2.2.1 49 x ||| q_rs P l x)
def cr_pin (l x : Nat) (ob : Bool) (bo : Option Nat) (P : PS) : PS :=
  if P.2.2.2.2 19 x = ob then (if m_fits (P.2.2.2.1 33 l) (P.2.2.1 34 l) (P.2.2.1 35 l) (P.2.2.1 21 x) = true then (if ob = true then cq_3 l x (cq_2 l x (cq_1 l x bo P)) else cq_1 l x bo P) else sp_note 5 ((P.2.2.2.1 33 l).getD 0) P) else sp_note 4 (P.2.2.1 32 l) P
def cr_ (ft : Nat → Int32) (c l : Nat) (ob : Bool) (bo : Option Nat) (P : PS) : PS :=
  if P.2.2.1 7 (P.2.2.1 32 l) = 1 then (match q_own ft P c (P.2.2.1 32 l) with
    | some x => cr_pin l x ob bo P
    | none => match q_inn ft P c (P.2.2.1 32 l) with
      | none => P
      | some y => cr_in l y ob bo P) else if ob = true then sp_note 4 (P.2.2.1 32 l) P else P
/-- checkLinks -/
def q_ls (P : PS) (i x l : Nat) : Nat := m_set (m_bits (P.2.2.2.1 29 l) (P.2.2.1 30 l) (P.2.2.1 31 l) (m_wd (P.2.2.1 21) i x)) (q_low (P.2.2.2.1 29 l) (P.2.2.1 30 l))
def cl_1 (i x l : Nat) (P : PS) : PS := if q_lb P i x l = none then sp_note 5 ((P.2.2.2.1 29 l).getD 0) P else P
def cl_2 (i x l : Nat) (P : PS) : PS := if P.2.2.1 48 x &&& q_ls P i x l = 0 then P else sp_note 3 (P.2.2.1 28 l) P
def cl_3 (i x l : Nat) (P : PS) : PS := ars P 48 x (P.2.2.1 48 x ||| q_ls P i x l)
def cl_23 (i x l : Nat) (P : PS) : PS := if q_lb P i x l ≠ none ∧ m_isOut (P.2.2.2.2 19) i x = false then cl_3 i x l (cl_2 i x l P) else P
def cl_link (ft gp : Nat → Int32) (c i l : Nat) (P : PS) : PS := match q_pin ft gp P i (P.2.2.1 28 l) with
  | none => sp_note 4 (P.2.2.1 28 l) P
  | some x => cr_ ft c l (m_isOut (P.2.2.2.2 19) i x) (q_lb P i x l) (cl_23 i x l (cl_1 i x l P))
/-! The desk's way through one link: the first fault that it finds (number, token), and the rows -/
def kr_in (l y : Nat) (ob : Bool) (b : Nat) (S : PS) : Option (Nat × Nat) × PS :=
  if ob = true then (if S.2.2.2.2 40 y = true then (some (3, S.2.2.1 32 l), S) else match S.2.2.2.1 33 l with
    | some z => (some (5, z), S)
    | none => (none, abs_ S 40 y true))
  else if S.2.2.2.1 39 y = some 0 then (some (4, S.2.2.1 32 l), S) else match S.2.2.2.1 33 l with
    | some z => (some (5, z), S)
    | none => (if S.2.2.2.1 39 y = none ∨ S.2.2.2.1 39 y = some b then none else some (5, S.2.2.1 32 l), S)
def kr_pin (l x : Nat) (ob : Bool) (b : Nat) (S : PS) : Option (Nat × Nat) × PS :=
  if S.2.2.2.2 19 x = ob then (if m_fits (S.2.2.2.1 33 l) (S.2.2.1 34 l) (S.2.2.1 35 l) (S.2.2.1 21 x) = true then
      (if ob = true then (if S.2.2.1 49 x &&& q_rs S l x = 0 then (if m_bits (S.2.2.2.1 33 l) (S.2.2.1 34 l) (S.2.2.1 35 l) (S.2.2.1 21 x) = b then none else some (5, S.2.2.1 32 l), cq_3 l x S) else (some (3, S.2.2.1 32 l), S))
        else (if m_bits (S.2.2.2.1 33 l) (S.2.2.1 34 l) (S.2.2.1 35 l) (S.2.2.1 21 x) = b then none else some (5, S.2.2.1 32 l), S))
      else (some (5, (S.2.2.2.1 33 l).getD 0), S))
  else (some (4, S.2.2.1 32 l), S)
def kr_ (ft : Nat → Int32) (c l : Nat) (ob : Bool) (b : Nat) (S : PS) : Option (Nat × Nat) × PS :=
  if S.2.2.1 7 (S.2.2.1 32 l) = 1 then (match q_own ft S c (S.2.2.1 32 l) with
    | some x => kr_pin l x ob b S
    | none => match q_inn ft S c (S.2.2.1 32 l) with
      | none => (none, S)
      | some y => kr_in l y ob b S) else if ob = true then (some (4, S.2.2.1 32 l), S) else (none, S)
def kl_link (ft gp : Nat → Int32) (c i l : Nat) (S : PS) : Option (Nat × Nat) × PS := match q_pin ft gp S i (S.2.2.1 28 l) with
  | none => (some (4, S.2.2.1 28 l), S)
  | some x => match q_lb S i x l with
    | none => (some (5, (S.2.2.2.1 29 l).getD 0), S)
    | some b => if m_isOut (S.2.2.2.2 19) i x = true then kr_ ft c l true b S
      else if S.2.2.1 48 x &&& q_ls S i x l = 0 then kr_ ft c l false b (cl_3 i x l S) else (some (3, S.2.2.1 28 l), S)
/-! Notes: the least one stays -/
theorem nt_2 (n t : Nat) (P : PS) : (sp_note n t P).2 = P.2 := by unfold sp_note; split <;> rfl
theorem nt_k (n t : Nat) (P : PS) {k : Nat} (h5 : k ≠ 5) (h6 : k ≠ 6) : (sp_note n t P).1 k = P.1 k := by
  unfold sp_note; split
  · rfl
  · show (if k = 6 then _ else (if k = 5 then _ else P.1 k)) = _; rw [if_neg h6, if_neg h5]
/-- nothing was noted at or ahead of token t -/
def abv (t : Nat) (P : PS) : Prop := P.1 5 = 0 ∨ P.2.2.1 8 t < P.1 6
theorem nt_new {n t : Nat} {P : PS} (h : abv t P) : (sp_note n t P).1 5 = n ∧ (sp_note n t P).1 6 = P.2.2.1 8 t := by
  unfold sp_note
  rw [if_neg (by rintro ⟨h1, h2⟩; rcases h with h | h <;> omega)]
  exact ⟨rfl, rfl⟩
theorem nt_old {n t : Nat} {P : PS} (h : 0 < P.1 5) (h6 : P.1 6 < P.2.2.1 8 t ∨ (P.1 6 = P.2.2.1 8 t ∧ P.1 5 ≤ n)) : sp_note n t P = P := by
  unfold sp_note; rw [if_pos ⟨h, h6⟩]
theorem nt_less {n t : Nat} {P : PS} (h6 : P.1 6 = P.2.2.1 8 t) (h5 : n < P.1 5) : (sp_note n t P).1 5 = n ∧ (sp_note n t P).1 6 = P.2.2.1 8 t := by
  unfold sp_note
  rw [if_neg (by rintro ⟨h1, h2⟩; omega)]
  exact ⟨rfl, rfl⟩
/-! One link: the reference's least note is the desk's first fault -/
/-- what the checks leave as it was -/
def kp (P X : PS) : Prop := (∀ k, k ≠ 5 → k ≠ 6 → X.1 k = P.1 k) ∧ (∀ k, k ≠ 48 → k ≠ 49 → X.2.2.1 k = P.2.2.1 k) ∧ (∀ k, k ≠ 39 → k ≠ 44 → X.2.2.2.1 k = P.2.2.2.1 k) ∧ (∀ k, k ≠ 40 → X.2.2.2.2 k = P.2.2.2.2 k)
theorem kp_rfl (P : PS) : kp P P := ⟨fun _ _ _ => rfl, fun _ _ _ => rfl, fun _ _ _ => rfl, fun _ _ => rfl⟩
theorem kp_tr {P X Y : PS} (h : kp P X) (g : kp X Y) : kp P Y := ⟨fun k a b => (g.1 k a b).trans (h.1 k a b), fun k a b => (g.2.1 k a b).trans (h.2.1 k a b), fun k a b => (g.2.2.1 k a b).trans (h.2.2.1 k a b), fun k a => (g.2.2.2 k a).trans (h.2.2.2 k a)⟩
theorem kp_nt (n t : Nat) (P : PS) : kp P (sp_note n t P) := ⟨fun k a b => nt_k n t P a b, fun _ _ _ => by rw [nt_2], fun _ _ _ => by rw [nt_2], fun _ _ => by rw [nt_2]⟩
theorem kp_ars {P : PS} {k i v : Nat} (h : k = 48 ∨ k = 49) : kp P (ars P k i v) := by
  refine ⟨fun _ _ _ => rfl, fun k' a b => ?_, fun _ _ _ => rfl, fun _ _ => rfl⟩
  show (if k' = k then _ else P.2.2.1 k') = _
  rw [if_neg (by omega)]
theorem kp_abs {P : PS} {i : Nat} {v : Bool} : kp P (abs_ P 40 i v) := by
  refine ⟨fun _ _ _ => rfl, fun _ _ _ => rfl, fun _ _ _ => rfl, fun k' a => ?_⟩
  show (if k' = 40 then _ else P.2.2.2.2 k') = _
  rw [if_neg a]
theorem kp_aos {P : PS} {k i : Nat} {v : Option Nat} (h : k = 39 ∨ k = 44) : kp P (aos P k i v) := by
  refine ⟨fun _ _ _ => rfl, fun _ _ _ => rfl, fun k' a b => ?_, fun _ _ => rfl⟩
  show (if k' = k then _ else P.2.2.2.1 k') = _
  rw [if_neg (by omega)]
theorem kp_ite {P X Y : PS} {c : Prop} [Decidable c] (h : kp P X) (g : kp P Y) : kp P (if c then X else Y) := by split <;> assumption
theorem kp_cin (l y : Nat) (ob : Bool) (bo : Option Nat) (P : PS) : kp P (cr_in l y ob bo P) := by
  have h1 : kp P (ci_1 l P) := by unfold ci_1; split; exact kp_rfl P; exact kp_nt _ _ P
  have h2 : kp P (ci_2 l y ob (ci_1 l P)) := kp_tr h1 (by unfold ci_2; exact kp_ite (kp_nt _ _ _) (kp_rfl _))
  have h3 : kp P (ci_3 l y ob (ci_2 l y ob (ci_1 l P))) := kp_tr h2 (by unfold ci_3; exact kp_ite (kp_nt _ _ _) (kp_rfl _))
  have h4 : kp P (ci_4 l y ob bo (ci_3 l y ob (ci_2 l y ob (ci_1 l P)))) := kp_tr h3 (by unfold ci_4; exact kp_ite (kp_nt _ _ _) (kp_rfl _))
  exact kp_tr h4 kp_abs
theorem kp_cq1 (l x : Nat) (bo : Option Nat) (P : PS) : kp P (cq_1 l x bo P) := by unfold cq_1; exact kp_ite (kp_nt _ _ _) (kp_rfl _)
theorem kp_cpin (l x : Nat) (ob : Bool) (bo : Option Nat) (P : PS) : kp P (cr_pin l x ob bo P) := by
  unfold cr_pin
  refine kp_ite (kp_ite (kp_ite ?_ (kp_cq1 l x bo P)) (kp_nt _ _ _)) (kp_nt _ _ _)
  exact kp_tr (kp_cq1 l x bo P) (kp_tr (by unfold cq_2; exact kp_ite (kp_rfl _) (kp_nt _ _ _)) (kp_ars (Or.inr rfl)))
theorem kp_cr (ft : Nat → Int32) (c l : Nat) (ob : Bool) (bo : Option Nat) (P : PS) : kp P (cr_ ft c l ob bo P) := by
  unfold cr_
  refine kp_ite ?_ (kp_ite (kp_nt _ _ _) (kp_rfl _))
  split
  · exact kp_cpin _ _ _ _ P
  · split
    · exact kp_rfl P
    · exact kp_cin _ _ _ _ P
/-- something was noted ahead of the right side: it stays -/
def blw (l : Nat) (P : PS) : Prop := 0 < P.1 5 ∧ P.1 6 < P.2.2.1 8 (P.2.2.1 32 l) ∧ ∀ z, P.2.2.2.1 33 l = some z → P.1 6 < P.2.2.1 8 z
theorem blw_ra {l n : Nat} {P : PS} (h : blw l P) : sp_note n (P.2.2.1 32 l) P = P := nt_old h.1 (Or.inl h.2.1)
theorem blw_rr {l n z : Nat} {P : PS} (h : blw l P) (hz : P.2.2.2.1 33 l = some z) : sp_note n z P = P := nt_old h.1 (Or.inl (h.2.2 z hz))
theorem m_fits_some {o : Option Nat} {i j n : Nat} (h : ¬ m_fits o i j n = true) : ∃ z, o = some z := by
  cases o with
  | none => exact absurd (by unfold m_fits; rw [if_pos rfl]) h
  | some z => exact ⟨z, rfl⟩
theorem cr_blw {ft : Nat → Int32} {c l : Nat} {ob : Bool} {bo : Option Nat} {P : PS} (h : blw l P) : (cr_ ft c l ob bo P).1 = P.1 := by
  unfold cr_
  split
  · split
    · rename_i x _
      unfold cr_pin
      have e1 : cq_1 l x bo P = P := by unfold cq_1; split; exact blw_ra h; rfl
      split
      · split
        · split
          · rw [e1]
            have e2 : cq_2 l x P = P := by unfold cq_2; split; rfl; exact blw_ra h
            rw [e2]; rfl
          · rw [e1]
        · rename_i hf
          obtain ⟨z, hz⟩ := m_fits_some hf
          rw [hz]; show (sp_note 5 z P).1 = _; rw [blw_rr h hz]
      · rw [blw_ra h]
    · split
      · rfl
      · rename_i y _
        unfold cr_in
        have e1 : ci_1 l P = P := by
          unfold ci_1; split
          · rfl
          · rename_i z hz; exact blw_rr h hz
        have e2 : ci_2 l y ob P = P := by unfold ci_2; split; exact blw_ra h; rfl
        have e3 : ci_3 l y ob P = P := by unfold ci_3; split; exact blw_ra h; rfl
        have e4 : ci_4 l y ob bo P = P := by unfold ci_4; split; exact blw_ra h; rfl
        rw [e1, e2, e3, e4]; rfl
  · split
    · rw [blw_ra h]
    · rfl
/-- nothing was noted at or ahead of the right side -/
def abr (l : Nat) (P : PS) : Prop := abv (P.2.2.1 32 l) P ∧ (∀ z, P.2.2.2.1 33 l = some z → abv z P ∧ P.2.2.1 8 (P.2.2.1 32 l) < P.2.2.1 8 z)
/-- the desk's answer at a link against the reference's: no fault, the same rows; or the fault is noted -/
def cmp (P X : PS) (r : Option (Nat × Nat) × PS) : Prop := (r.1 = none → X.2 = r.2.2 ∧ X.1 = P.1) ∧ ∀ n t, r.1 = some (n, t) → X.1 5 = n ∧ X.1 6 = P.2.2.1 8 t
theorem cmp_ok {P X Y : PS} (h : X.2 = Y.2) (h1 : X.1 = P.1) : cmp P X (none, Y) := ⟨fun _ => ⟨h, h1⟩, fun _ _ h => by cases h⟩
theorem cmp_no {P X Y : PS} {n t : Nat} (h : X.1 5 = n ∧ X.1 6 = P.2.2.1 8 t) : cmp P X (some (n, t), Y) := by
  refine ⟨fun q => ?_, fun _ _ q => ?_⟩
  · cases q
  · cases q; exact h
theorem cin_cmp {l y b : Nat} {ob : Bool} {P S : PS} (e : P.2 = S.2) (h : abr l P) : cmp P (cr_in l y ob (some b) P) (kr_in l y ob b S) := by
  obtain ⟨ha, hr⟩ := h
  unfold kr_in
  rw [← e]
  have x5 : ∀ X : PS, (ci_5 y ob X).1 = X.1 := fun _ => rfl
  cases ob with
  | true =>
    rw [if_pos rfl]
    have e3 : ∀ X : PS, ci_3 l y true X = X := fun X => by unfold ci_3; rw [if_neg (by rintro ⟨q, -⟩; cases q)]
    have e4 : ∀ X : PS, ci_4 l y true (some b) X = X := fun X => by unfold ci_4; rw [if_neg (by rintro ⟨q, -⟩; cases q)]
    unfold cr_in
    rw [e3, e4]
    by_cases hl : P.2.2.2.2 40 y = true
    · rw [if_pos hl]
      refine cmp_no ?_
      rw [x5]
      cases hz : P.2.2.2.1 33 l with
      | none =>
        have e1 : ci_1 l P = P := by unfold ci_1; rw [hz]
        have e2 : ci_2 l y true P = sp_note 3 (P.2.2.1 32 l) P := by unfold ci_2; rw [if_pos ⟨rfl, hl⟩]
        rw [e1, e2]; exact nt_new ha
      | some z =>
        have e1 : ci_1 l P = sp_note 5 z P := by unfold ci_1; rw [hz]
        obtain ⟨h1, h2⟩ := hr z hz
        have n1 := nt_new (n := 5) h1
        have e2 : ci_2 l y true (sp_note 5 z P) = sp_note 3 (P.2.2.1 32 l) (sp_note 5 z P) := by unfold ci_2; rw [nt_2, if_pos ⟨rfl, hl⟩]
        rw [e1, e2]
        have := nt_new (n := 3) (t := P.2.2.1 32 l) (P := sp_note 5 z P) (Or.inr (by rw [nt_2, n1.2]; exact h2))
        rw [nt_2] at this; exact this
    · rw [if_neg hl]
      cases hz : P.2.2.2.1 33 l with
      | none =>
        have e1 : ci_1 l P = P := by unfold ci_1; rw [hz]
        have e2 : ci_2 l y true P = P := by unfold ci_2; rw [if_neg (fun q => hl q.2)]
        rw [e1, e2]
        refine cmp_ok ?_ rfl
        show (abs_ P 40 y (P.2.2.2.2 40 y || true)).2 = (abs_ S 40 y true).2
        rw [Bool.or_true]
        show (P.2.1, P.2.2.1, P.2.2.2.1, va_up P.2.2.2.2 40 (va_up (P.2.2.2.2 40) y true)) = (S.2.1, S.2.2.1, S.2.2.2.1, va_up S.2.2.2.2 40 (va_up (S.2.2.2.2 40) y true))
        rw [e]
      | some z =>
        have e1 : ci_1 l P = sp_note 5 z P := by unfold ci_1; rw [hz]
        have e2 : ci_2 l y true (sp_note 5 z P) = sp_note 5 z P := by unfold ci_2; rw [nt_2, if_neg (fun q => hl q.2)]
        rw [e1, e2]
        exact cmp_no (nt_new (hr z hz).1)
  | false =>
    rw [if_neg (by decide)]
    have e2 : ∀ X : PS, ci_2 l y false X = X := fun X => by unfold ci_2; rw [if_neg (by rintro ⟨q, -⟩; cases q)]
    unfold cr_in
    rw [e2]
    by_cases hg : P.2.2.2.1 39 y = some 0
    · rw [if_pos hg]
      refine cmp_no ?_
      rw [x5]
      cases hz : P.2.2.2.1 33 l with
      | none =>
        have e1 : ci_1 l P = P := by unfold ci_1; rw [hz]
        have e3 : ci_3 l y false P = sp_note 4 (P.2.2.1 32 l) P := by unfold ci_3; rw [if_pos ⟨rfl, hg⟩]
        have e4 : ci_4 l y false (some b) (sp_note 4 (P.2.2.1 32 l) P) = sp_note 4 (P.2.2.1 32 l) P := by
          unfold ci_4; rw [nt_2, if_neg]; rintro ⟨-, ⟨w, q1, q2⟩, -⟩; rw [hg] at q1; cases q1; omega
        rw [e1, e3, e4]; exact nt_new ha
      | some z =>
        have e1 : ci_1 l P = sp_note 5 z P := by unfold ci_1; rw [hz]
        obtain ⟨h1, h2⟩ := hr z hz
        have n1 := nt_new (n := 5) h1
        have e3 : ci_3 l y false (sp_note 5 z P) = sp_note 4 (P.2.2.1 32 l) (sp_note 5 z P) := by unfold ci_3; rw [nt_2, if_pos ⟨rfl, hg⟩]
        have e4 : ci_4 l y false (some b) (sp_note 4 (P.2.2.1 32 l) (sp_note 5 z P)) = sp_note 4 (P.2.2.1 32 l) (sp_note 5 z P) := by
          unfold ci_4; rw [nt_2, nt_2, if_neg]; rintro ⟨-, ⟨w, q1, q2⟩, -⟩; rw [hg] at q1; cases q1; omega
        rw [e1, e3, e4]
        have := nt_new (n := 4) (t := P.2.2.1 32 l) (P := sp_note 5 z P) (Or.inr (by rw [nt_2, n1.2]; exact h2))
        rw [nt_2] at this; exact this
    · rw [if_neg hg]
      cases hz : P.2.2.2.1 33 l with
      | none =>
        have e1 : ci_1 l P = P := by unfold ci_1; rw [hz]
        have e3 : ci_3 l y false P = P := by unfold ci_3; rw [if_neg (fun q => hg q.2)]
        rw [e1, e3]
        by_cases hw : P.2.2.2.1 39 y = none ∨ P.2.2.2.1 39 y = some b
        · have e4 : ci_4 l y false (some b) P = P := by
            unfold ci_4; rw [if_neg]
            rintro ⟨-, ⟨w, q1, q2⟩, -, -, q5⟩
            rcases hw with q | q
            · rw [q] at q1; cases q1
            · exact q5 q
          rw [e4]
          show cmp P _ (if P.2.2.2.1 39 y = none ∨ P.2.2.2.1 39 y = some b then none else _, S)
          rw [if_pos hw]
          refine cmp_ok ?_ rfl
          show (abs_ P 40 y (P.2.2.2.2 40 y || false)).2 = S.2
          rw [Bool.or_false, ← e]
          show (P.2.1, P.2.2.1, P.2.2.2.1, va_up P.2.2.2.2 40 (va_up (P.2.2.2.2 40) y (P.2.2.2.2 40 y))) = P.2
          have u1 : va_up (P.2.2.2.2 40) y (P.2.2.2.2 40 y) = P.2.2.2.2 40 := by
            funext j; unfold va_up; split
            · rename_i q; rw [q]
            · rfl
          have u2 : va_up P.2.2.2.2 40 (P.2.2.2.2 40) = P.2.2.2.2 := by
            funext j; unfold va_up; split
            · rename_i q; rw [q]
            · rfl
          rw [u1, u2]
        · have e4 : ci_4 l y false (some b) P = sp_note 5 (P.2.2.1 32 l) P := by
            unfold ci_4; rw [if_pos]
            refine ⟨rfl, ?_, hz, by simp, fun q => hw (Or.inr q)⟩
            cases hq : P.2.2.2.1 39 y with
            | none => exact absurd (Or.inl hq) hw
            | some w =>
              refine ⟨w, rfl, ?_⟩
              rcases Nat.eq_zero_or_pos w with q | q
              · subst q; exact absurd hq hg
              · exact q
          rw [e4]
          show cmp P _ (if P.2.2.2.1 39 y = none ∨ P.2.2.2.1 39 y = some b then none else _, S)
          rw [if_neg hw]
          exact cmp_no (nt_new ha)
      | some z =>
        have e1 : ci_1 l P = sp_note 5 z P := by unfold ci_1; rw [hz]
        have e3 : ci_3 l y false (sp_note 5 z P) = sp_note 5 z P := by unfold ci_3; rw [nt_2, if_neg (fun q => hg q.2)]
        have e4 : ci_4 l y false (some b) (sp_note 5 z P) = sp_note 5 z P := by
          unfold ci_4; rw [nt_2, if_neg]; rintro ⟨-, -, q, -⟩; rw [hz] at q; cases q
        rw [e1, e3, e4]
        exact cmp_no (nt_new (hr z hz).1)
theorem cpin_cmp {l x b : Nat} {ob : Bool} {P S : PS} (e : P.2 = S.2) (h : abr l P) : cmp P (cr_pin l x ob (some b) P) (kr_pin l x ob b S) := by
  obtain ⟨ha, hr⟩ := h
  have er : q_rs S l x = q_rs P l x := by unfold q_rs; rw [e]
  have e3 : (cq_3 l x S).2 = (cq_3 l x P).2 := by
    show (S.2.1, va_up S.2.2.1 49 (va_up (S.2.2.1 49) x (S.2.2.1 49 x ||| q_rs S l x)), S.2.2.2) = (P.2.1, va_up P.2.2.1 49 (va_up (P.2.2.1 49) x (P.2.2.1 49 x ||| q_rs P l x)), P.2.2.2)
    rw [er, e]
  unfold kr_pin cr_pin
  rw [er, ← e]
  by_cases ho : P.2.2.2.2 19 x = ob
  · rw [if_pos ho, if_pos ho]
    by_cases hf : m_fits (P.2.2.2.1 33 l) (P.2.2.1 34 l) (P.2.2.1 35 l) (P.2.2.1 21 x) = true
    · rw [if_pos hf, if_pos hf]
      by_cases hm : m_bits (P.2.2.2.1 33 l) (P.2.2.1 34 l) (P.2.2.1 35 l) (P.2.2.1 21 x) = b
      · have e1 : cq_1 l x (some b) P = P := by unfold cq_1; rw [if_neg (fun q => q.2 (by rw [hm]))]
        rw [e1]
        by_cases hob : ob = true
        · rw [if_pos hob, if_pos hob]
          by_cases hs : P.2.2.1 49 x &&& q_rs P l x = 0
          · have e2 : cq_2 l x P = P := by unfold cq_2; rw [if_pos hs]
            rw [if_pos hs, e2, if_pos hm]
            exact cmp_ok e3.symm rfl
          · have e2 : cq_2 l x P = sp_note 3 (P.2.2.1 32 l) P := by unfold cq_2; rw [if_neg hs]
            rw [if_neg hs, e2]
            exact cmp_no (nt_new ha)
        · rw [if_neg hob, if_neg hob, if_pos hm]
          exact cmp_ok e rfl
      · have e1 : cq_1 l x (some b) P = sp_note 5 (P.2.2.1 32 l) P := by
          unfold cq_1; rw [if_pos ⟨by simp, fun q => hm (by cases q; rfl)⟩]
        rw [e1]
        have n1 := nt_new (n := 5) ha
        by_cases hob : ob = true
        · rw [if_pos hob, if_pos hob]
          have er2 : q_rs (sp_note 5 (P.2.2.1 32 l) P) l x = q_rs P l x := by unfold q_rs; rw [nt_2]
          by_cases hs : P.2.2.1 49 x &&& q_rs P l x = 0
          · have e2 : cq_2 l x (sp_note 5 (P.2.2.1 32 l) P) = sp_note 5 (P.2.2.1 32 l) P := by unfold cq_2; rw [er2, nt_2, if_pos hs]
            rw [if_pos hs, e2, if_neg hm]
            exact cmp_no n1
          · have e2 : cq_2 l x (sp_note 5 (P.2.2.1 32 l) P) = sp_note 3 (P.2.2.1 32 l) (sp_note 5 (P.2.2.1 32 l) P) := by unfold cq_2; rw [er2, nt_2, if_neg hs]
            rw [if_neg hs, e2]
            refine cmp_no ?_
            have := nt_less (n := 3) (t := P.2.2.1 32 l) (P := sp_note 5 (P.2.2.1 32 l) P) (by rw [nt_2]; exact n1.2) (by rw [n1.1]; decide)
            rw [nt_2] at this; exact this
        · rw [if_neg hob, if_neg hob, if_neg hm]
          exact cmp_no n1
    · rw [if_neg hf, if_neg hf]
      obtain ⟨z, hz⟩ := m_fits_some hf
      rw [hz]
      exact cmp_no (nt_new (hr z hz).1)
  · rw [if_neg ho, if_neg ho]
    exact cmp_no (nt_new ha)
theorem cr_cmp {ft : Nat → Int32} {c l b : Nat} {ob : Bool} {P S : PS} (e : P.2 = S.2) (h : abr l P) : cmp P (cr_ ft c l ob (some b) P) (kr_ ft c l ob b S) := by
  have eo : q_own ft S c (P.2.2.1 32 l) = q_own ft P c (P.2.2.1 32 l) := by unfold q_own; rw [e]
  have ei : q_inn ft S c (P.2.2.1 32 l) = q_inn ft P c (P.2.2.1 32 l) := by unfold q_inn; rw [e]
  unfold kr_ cr_
  rw [show S.2.2.1 32 l = P.2.2.1 32 l by rw [e], show S.2.2.1 7 (P.2.2.1 32 l) = P.2.2.1 7 (P.2.2.1 32 l) by rw [e], eo, ei]
  split
  · cases q_own ft P c (P.2.2.1 32 l) with
    | some x => exact cpin_cmp e h
    | none =>
      cases q_inn ft P c (P.2.2.1 32 l) with
      | none => exact cmp_ok e rfl
      | some y => exact cin_cmp e h
  · split
    · exact cmp_no (nt_new h.1)
    · exact cmp_ok e rfl
/-- the tokens of link l in their order, by their places -/
def lto (l : Nat) (P : PS) : Prop := (P.2.2.1 8 (P.2.2.1 28 l) < P.2.2.1 8 (P.2.2.1 32 l)) ∧ (∀ z, P.2.2.2.1 29 l = some z → P.2.2.1 8 (P.2.2.1 28 l) < P.2.2.1 8 z ∧ P.2.2.1 8 z < P.2.2.1 8 (P.2.2.1 32 l)) ∧ (∀ z, P.2.2.2.1 33 l = some z → P.2.2.1 8 (P.2.2.1 32 l) < P.2.2.1 8 z)
theorem lto.a {l : Nat} {P : PS} (h : lto l P) : P.2.2.1 8 (P.2.2.1 28 l) < P.2.2.1 8 (P.2.2.1 32 l) := h.1
theorem lto.r {l : Nat} {P : PS} (h : lto l P) : ∀ z, P.2.2.2.1 29 l = some z → P.2.2.1 8 (P.2.2.1 28 l) < P.2.2.1 8 z ∧ P.2.2.1 8 z < P.2.2.1 8 (P.2.2.1 32 l) := h.2.1
theorem lto.e {l : Nat} {P : PS} (h : lto l P) : ∀ z, P.2.2.2.1 33 l = some z → P.2.2.1 8 (P.2.2.1 32 l) < P.2.2.1 8 z := h.2.2
/-- nothing was noted at or ahead of the last token of link l -/
def abl (l : Nat) (P : PS) : Prop := P.1 5 = 0 ∨ (P.2.2.1 8 (P.2.2.1 32 l) < P.1 6 ∧ ∀ z, P.2.2.2.1 33 l = some z → P.2.2.1 8 z < P.1 6)
theorem abl_r {l : Nat} {P : PS} (h : abl l P) (t : lto l P) : abr l P := by
  refine ⟨?_, fun z hz => ⟨?_, t.e z hz⟩⟩
  · rcases h with h | h
    · exact Or.inl h
    · exact Or.inr h.1
  · rcases h with h | h
    · exact Or.inl h
    · exact Or.inr (h.2 z hz)
theorem q_lb_2 {P S : PS} (e : P.2 = S.2) (i x l : Nat) : q_lb S i x l = q_lb P i x l := by unfold q_lb; rw [e]
theorem q_pin_2 {ft gp : Nat → Int32} {P S : PS} (e : P.2 = S.2) (i t : Nat) : q_pin ft gp S i t = q_pin ft gp P i t := by unfold q_pin q_own q_word; rw [e]
theorem q_lb_none {P : PS} {i x l : Nat} (h : q_lb P i x l = none) : ∃ z, P.2.2.2.1 29 l = some z := by
  unfold q_lb at h
  split at h
  · cases h
  · rename_i q; exact m_fits_some q
theorem cl_cmp {ft gp : Nat → Int32} {c i l : Nat} {P S : PS} (e : P.2 = S.2) (t : lto l P) (h : abl l P) : cmp P (cl_link ft gp c i l P) (kl_link ft gp c i l S) := by
  have la : abv (P.2.2.1 28 l) P := by
    rcases h with h | h
    · exact Or.inl h
    · exact Or.inr (Nat.lt_trans t.a h.1)
  unfold cl_link kl_link
  rw [show S.2.2.1 28 l = P.2.2.1 28 l by rw [e], q_pin_2 e]
  cases q_pin ft gp P i (P.2.2.1 28 l) with
  | none => exact cmp_no (nt_new la)
  | some x =>
    show cmp P (cr_ ft c l (m_isOut (P.2.2.2.2 19) i x) (q_lb P i x l) (cl_23 i x l (cl_1 i x l P))) (match q_lb S i x l with
      | none => (some (5, (S.2.2.2.1 29 l).getD 0), S)
      | some b => if m_isOut (S.2.2.2.2 19) i x = true then kr_ ft c l true b S
        else if S.2.2.1 48 x &&& q_ls S i x l = 0 then kr_ ft c l false b (cl_3 i x l S) else (some (3, P.2.2.1 28 l), S))
    have els : q_ls S i x l = q_ls P i x l := by unfold q_ls; rw [e]
    rw [q_lb_2 e, els, show S.2.2.2.2 19 = P.2.2.2.2 19 by rw [e], show S.2.2.1 48 x = P.2.2.1 48 x by rw [e], show S.2.2.2.1 29 l = P.2.2.2.1 29 l by rw [e]]
    cases hb : q_lb P i x l with
    | none =>
      obtain ⟨z, hz⟩ := q_lb_none hb
      have hz1 := t.r z hz
      have e1 : cl_1 i x l P = sp_note 5 z P := by unfold cl_1; rw [if_pos hb, hz]; rfl
      have n1 : (sp_note 5 z P).1 5 = 5 ∧ (sp_note 5 z P).1 6 = P.2.2.1 8 z := nt_new (by
        rcases h with h | h
        · exact Or.inl h
        · exact Or.inr (Nat.lt_trans hz1.2 h.1))
      have e2 : cl_23 i x l (sp_note 5 z P) = sp_note 5 z P := by
        unfold cl_23; rw [if_neg]; rintro ⟨q, -⟩
        exact q (by unfold q_lb at hb ⊢; rw [nt_2]; exact hb)
      rw [e1, e2, hz]
      refine cmp_no ?_
      rw [cr_blw]
      · exact n1
      · refine ⟨by rw [n1.1]; decide, by rw [nt_2, n1.2]; exact hz1.2, fun z' hz' => ?_⟩
        rw [nt_2] at hz' ⊢
        rw [n1.2]; exact Nat.lt_trans hz1.2 (t.e z' hz')
    | some b =>
      have e1 : cl_1 i x l P = P := by unfold cl_1; rw [if_neg (by rw [hb]; simp)]
      rw [e1]
      show cmp P _ (if m_isOut (P.2.2.2.2 19) i x = true then kr_ ft c l true b S
        else if P.2.2.1 48 x &&& q_ls P i x l = 0 then kr_ ft c l false b (cl_3 i x l S) else (some (3, P.2.2.1 28 l), S))
      cases ho : m_isOut (P.2.2.2.2 19) i x with
      | true =>
        have e2 : cl_23 i x l P = P := by unfold cl_23; rw [if_neg]; rintro ⟨-, q⟩; rw [ho] at q; cases q
        rw [e2, if_pos rfl]
        exact cr_cmp e (abl_r h t)
      | false =>
        have e2 : cl_23 i x l P = cl_3 i x l (cl_2 i x l P) := by unfold cl_23; rw [if_pos ⟨by rw [hb]; simp, ho⟩]
        rw [e2, if_neg (by decide)]
        by_cases hs : P.2.2.1 48 x &&& q_ls P i x l = 0
        · have e3 : cl_2 i x l P = P := by unfold cl_2; rw [if_pos hs]
          rw [e3, if_pos hs]
          have e4 : (cl_3 i x l P).2 = (cl_3 i x l S).2 := by
            show (P.2.1, va_up P.2.2.1 48 (va_up (P.2.2.1 48) x (P.2.2.1 48 x ||| q_ls P i x l)), P.2.2.2) = (S.2.1, va_up S.2.2.1 48 (va_up (S.2.2.1 48) x (S.2.2.1 48 x ||| q_ls S i x l)), S.2.2.2)
            rw [els, e]
          have r := cr_cmp (ft := ft) (c := c) (l := l) (b := b) (ob := false) e4 (abl_r (P := cl_3 i x l P) h ⟨t.a, t.r, t.e⟩)
          exact ⟨fun q => ⟨(r.1 q).1, (r.1 q).2⟩, fun n t' q => r.2 n t' q⟩
        · have e3 : cl_2 i x l P = sp_note 3 (P.2.2.1 28 l) P := by unfold cl_2; rw [if_neg hs]
          have n1 := nt_new (n := 3) la
          rw [e3, if_neg hs]
          refine cmp_no ?_
          have b1 : (cl_3 i x l (sp_note 3 (P.2.2.1 28 l) P)).1 = (sp_note 3 (P.2.2.1 28 l) P).1 := rfl
          rw [cr_blw]
          · exact n1
          · refine ⟨by rw [b1, n1.1]; decide, ?_, fun z hz => ?_⟩
            · rw [b1, n1.2]
              show _ < (sp_note 3 (P.2.2.1 28 l) P).2.2.1 8 ((sp_note 3 (P.2.2.1 28 l) P).2.2.1 32 l)
              rw [nt_2]; exact t.a
            · rw [b1, n1.2]
              have hz : (sp_note 3 (P.2.2.1 28 l) P).2.2.2.1 33 l = some z := hz
              show _ < (sp_note 3 (P.2.2.1 28 l) P).2.2.1 8 z
              rw [nt_2] at hz ⊢
              exact Nat.lt_trans t.a (t.e z hz)
theorem kp_cl (ft gp : Nat → Int32) (c i l : Nat) (P : PS) : kp P (cl_link ft gp c i l P) := by
  unfold cl_link
  split
  · exact kp_nt _ _ _
  · rename_i x _
    have h1 : kp P (cl_1 i x l P) := by unfold cl_1; exact kp_ite (kp_nt _ _ _) (kp_rfl _)
    have h2 : kp P (cl_23 i x l (cl_1 i x l P)) := kp_tr h1 (by
      unfold cl_23
      refine kp_ite ?_ (kp_rfl _)
      exact kp_tr (by unfold cl_2; exact kp_ite (kp_rfl _) (kp_nt _ _ _)) (kp_ars (Or.inl rfl)))
    exact kp_tr h2 (kp_cr _ _ _ _ _ _)
/-- something was noted ahead of the link: it stays -/
theorem cl_blw {ft gp : Nat → Int32} {c i l : Nat} {P : PS} (t : lto l P) (h5 : 0 < P.1 5) (h6 : P.1 6 < P.2.2.1 8 (P.2.2.1 28 l)) : (cl_link ft gp c i l P).1 = P.1 := by
  unfold cl_link
  split
  · rw [nt_old h5 (Or.inl h6)]
  · rename_i x _
    have e1 : cl_1 i x l P = P := by
      unfold cl_1; split
      · rename_i q
        obtain ⟨z, hz⟩ := q_lb_none q
        rw [hz]
        exact nt_old h5 (Or.inl (Nat.lt_trans h6 (t.r z hz).1))
      · rfl
    rw [e1]
    have e2 : ∃ Y : PS, cl_23 i x l P = Y ∧ Y.1 = P.1 ∧ Y.2.2.1 8 = P.2.2.1 8 ∧ Y.2.2.1 32 = P.2.2.1 32 ∧ Y.2.2.2.1 33 = P.2.2.2.1 33 := by
      unfold cl_23; split
      · have e3 : cl_2 i x l P = P := by unfold cl_2; split; rfl; exact nt_old h5 (Or.inl h6)
        rw [e3]
        exact ⟨_, rfl, rfl, rfl, rfl, rfl⟩
      · exact ⟨_, rfl, rfl, rfl, rfl, rfl⟩
    obtain ⟨Y, hY, y1, y8, y32, y33⟩ := e2
    rw [hY, cr_blw, y1]
    refine ⟨by rw [y1]; exact h5, by rw [y1, y8, y32]; exact Nat.lt_trans h6 t.a, fun z hz => ?_⟩
    rw [y33] at hz
    rw [y1, y8]; exact Nat.lt_trans h6 (Nat.lt_trans t.a (t.e z hz))
/-! The links of a part, the parts of a chip -/
def cl_links (ft gp : Nat → Int32) (c i : Nat) : Nat → Nat → PS → PS
  | 0, _, P => P
  | k + 1, l, P => cl_links ft gp c i k (l + 1) (cl_link ft gp c i l P)
theorem cl_links_u (ft gp : Nat → Int32) (c i n l : Nat) (P : PS) : cl_links ft gp c i (n - l) l P = if l < n then cl_links ft gp c i (n - (l + 1)) (l + 1) (cl_link ft gp c i l P) else P := by
  by_cases h : l < n
  · rw [if_pos h, show n - l = (n - (l + 1)) + 1 by omega]; rfl
  · rw [if_neg h, show n - l = 0 by omega]; rfl
/-- a row of numbers from i on: all 0 -/
def rz (a : Nat) : Nat → Nat → PS → PS
  | 0, _, P => P
  | k + 1, i, P => rz a k (i + 1) (ars P a i 0)
theorem rz_u (a n i : Nat) (P : PS) : rz a (n - i) i P = if i < n then rz a (n - (i + 1)) (i + 1) (ars P a i 0) else P := by
  by_cases h : i < n
  · rw [if_pos h, show n - i = (n - (i + 1)) + 1 by omega]; rfl
  · rw [if_neg h, show n - i = 0 by omega]; rfl
def cl_part (ft gp : Nat → Int32) (c p : Nat) (P : PS) : PS := match P.2.2.2.1 44 p with
  | none => sp_note 4 (P.2.2.1 25 p) P
  | some i => cl_links ft gp c i (P.2.2.1 26 (p + 1) - P.2.2.1 26 p) (P.2.2.1 26 p) (rz 48 200 0 P)
def cl_parts (ft gp : Nat → Int32) (c : Nat) : Nat → Nat → PS → PS
  | 0, _, P => P
  | k + 1, p, P => cl_parts ft gp c k (p + 1) (cl_part ft gp c p P)
theorem cl_parts_u (ft gp : Nat → Int32) (c n p : Nat) (P : PS) : cl_parts ft gp c (n - p) p P = if p < n then cl_parts ft gp c (n - (p + 1)) (p + 1) (cl_part ft gp c p P) else P := by
  by_cases h : p < n
  · rw [if_pos h, show n - p = (n - (p + 1)) + 1 by omega]; rfl
  · rw [if_neg h, show n - p = 0 by omega]; rfl
def cl_all (ft gp : Nat → Int32) (c : Nat) (P : PS) : PS := cl_parts ft gp c (P.2.2.1 23 (c + 1) - P.2.2.1 23 c) (P.2.2.1 23 c) (rz 49 200 0 P)
/-- the desk -/
def kl_links (ft gp : Nat → Int32) (c i : Nat) : Nat → Nat → PS → Option (Nat × Nat) × PS
  | 0, _, S => (none, S)
  | k + 1, l, S => if (kl_link ft gp c i l S).1 = none then kl_links ft gp c i k (l + 1) (kl_link ft gp c i l S).2 else kl_link ft gp c i l S
def kl_part (ft gp : Nat → Int32) (c p : Nat) (S : PS) : Option (Nat × Nat) × PS := match S.2.2.2.1 44 p with
  | none => (some (4, S.2.2.1 25 p), S)
  | some i => kl_links ft gp c i (S.2.2.1 26 (p + 1) - S.2.2.1 26 p) (S.2.2.1 26 p) (rz 48 200 0 S)
def kl_parts (ft gp : Nat → Int32) (c : Nat) : Nat → Nat → PS → Option (Nat × Nat) × PS
  | 0, _, S => (none, S)
  | k + 1, p, S => if (kl_part ft gp c p S).1 = none then kl_parts ft gp c k (p + 1) (kl_part ft gp c p S).2 else kl_part ft gp c p S
def kl_all (ft gp : Nat → Int32) (c : Nat) (S : PS) : Option (Nat × Nat) × PS := kl_parts ft gp c (S.2.2.1 23 (c + 1) - S.2.2.1 23 c) (S.2.2.1 23 c) (rz 49 200 0 S)
theorem kp_rz (a : Nat) (h : a = 48 ∨ a = 49) : ∀ k i P, kp P (rz a k i P)
  | 0, _, P => kp_rfl P
  | k + 1, i, P => kp_tr (kp_ars h) (kp_rz a h k (i + 1) _)
theorem rz_2 (a : Nat) : ∀ (k i : Nat) (P S : PS), P.2 = S.2 → (rz a k i P).2 = (rz a k i S).2
  | 0, _, _, _, h => h
  | k + 1, i, P, S, h => rz_2 a k (i + 1) _ _ (by show (P.2.1, va_up P.2.2.1 a (va_up (P.2.2.1 a) i 0), P.2.2.2) = (S.2.1, va_up S.2.2.1 a (va_up (S.2.2.1 a) i 0), S.2.2.2); rw [h])
theorem rz_1 (a : Nat) : ∀ (k i : Nat) (P : PS), (rz a k i P).1 = P.1
  | 0, _, _ => rfl
  | k + 1, i, P => rz_1 a k (i + 1) (ars P a i 0)
/-- rows of the text that the checks don't change -/
theorem lto_kp {l : Nat} {P X : PS} (h : kp P X) (t : lto l P) : lto l X := by
  have a8 := h.2.1 8 (by decide) (by decide)
  have a28 := h.2.1 28 (by decide) (by decide)
  have a32 := h.2.1 32 (by decide) (by decide)
  have o29 := h.2.2.1 29 (by decide) (by decide)
  have o33 := h.2.2.1 33 (by decide) (by decide)
  exact ⟨by rw [a8, a28, a32]; exact t.a, by rw [a8, a28, a32, o29]; exact t.r, by rw [a8, a32, o33]; exact t.e⟩
/-- a fault of link l is told at one of its tokens -/
def ktok (l n t : Nat) (S : PS) : Prop := 0 < n ∧ (t = S.2.2.1 28 l ∨ S.2.2.2.1 29 l = some t ∨ t = S.2.2.1 32 l ∨ S.2.2.2.1 33 l = some t)
theorem kr_tok {ft : Nat → Int32} {c l b n t : Nat} {ob : Bool} {S : PS} (h : (kr_ ft c l ob b S).1 = some (n, t)) : ktok l n t S := by
  have ra : ∀ m, some (m, S.2.2.1 32 l) = some (n, t) → 0 < m → ktok l n t S := fun m e hm => by cases e; exact ⟨hm, Or.inr (Or.inr (Or.inl rfl))⟩
  have rr : ∀ m z, some (m, z) = some (n, t) → 0 < m → S.2.2.2.1 33 l = some z → ktok l n t S := fun m z e hm hz => by cases e; exact ⟨hm, Or.inr (Or.inr (Or.inr hz))⟩
  unfold kr_ at h
  split at h
  · split at h
    · unfold kr_pin at h
      split at h
      · split at h
        · split at h
          · split at h
            · have h : (if _ then none else some (5, S.2.2.1 32 l)) = some (n, t) := h
              split at h
              · cases h
              · exact ra 5 h (by decide)
            · exact ra 3 h (by decide)
          · have h : (if _ then none else some (5, S.2.2.1 32 l)) = some (n, t) := h
            split at h
            · cases h
            · exact ra 5 h (by decide)
        · rename_i hf
          obtain ⟨z, hz⟩ := m_fits_some hf
          rw [hz] at h
          exact rr 5 z h (by decide) hz
      · exact ra 4 h (by decide)
    · split at h
      · cases h
      · unfold kr_in at h
        split at h
        · split at h
          · exact ra 3 h (by decide)
          · split at h
            · rename_i z hz; exact rr 5 z h (by decide) hz
            · cases h
        · split at h
          · exact ra 4 h (by decide)
          · split at h
            · rename_i z hz; exact rr 5 z h (by decide) hz
            · have h : (if _ then none else some (5, S.2.2.1 32 l)) = some (n, t) := h
              split at h
              · cases h
              · exact ra 5 h (by decide)
  · split at h
    · exact ra 4 h (by decide)
    · cases h
theorem kl_tok {ft gp : Nat → Int32} {c i l n t : Nat} {S : PS} (h : (kl_link ft gp c i l S).1 = some (n, t)) : ktok l n t S := by
  have la : ∀ m, some (m, S.2.2.1 28 l) = some (n, t) → 0 < m → ktok l n t S := fun m e hm => by cases e; exact ⟨hm, Or.inl rfl⟩
  unfold kl_link at h
  split at h
  · exact la 4 h (by decide)
  · split at h
    · rename_i hb
      obtain ⟨z, hz⟩ := q_lb_none hb
      rw [hz] at h
      cases h
      exact ⟨by decide, Or.inr (Or.inl hz)⟩
    · split at h
      · exact kr_tok h
      · split at h
        · exact kr_tok (S := cl_3 i _ l S) h
        · exact la 3 h (by decide)
/-- the place of a token -/
abbrev pl_ (P : PS) (t : Nat) : Nat := P.2.2.1 8 t
/-- nothing was noted below place e -/
def abe (e : Nat) (P : PS) : Prop := P.1 5 = 0 ∨ e ≤ P.1 6
/-- something was noted ahead of the links: it stays -/
theorem links_blw {ft gp : Nat → Int32} {c i : Nat} : ∀ (k l : Nat) (P : PS), (∀ j, l ≤ j → j < l + k → lto j P) → 0 < P.1 5 → (∀ j, l ≤ j → j < l + k → P.1 6 < P.2.2.1 8 (P.2.2.1 28 j)) → (cl_links ft gp c i k l P).1 = P.1
  | 0, _, _, _, _, _ => rfl
  | k + 1, l, P, ht, h5, h6 => by
    have e := cl_blw (ft := ft) (gp := gp) (c := c) (i := i) (ht l (Nat.le_refl _) (by omega)) h5 (h6 l (Nat.le_refl _) (by omega))
    have kk := kp_cl ft gp c i l P
    show (cl_links ft gp c i k (l + 1) (cl_link ft gp c i l P)).1 = _
    rw [links_blw k (l + 1) _ (fun j a b => lto_kp kk (ht j (by omega) (by omega))) (by rw [e]; exact h5) (fun j a b => by rw [e, kk.2.1 8 (by decide) (by decide), kk.2.1 28 (by decide) (by decide)]; exact h6 j (by omega) (by omega)), e]
theorem links_cmp {ft gp : Nat → Int32} {c i : Nat} {e : Nat} : ∀ (k l : Nat) (P S : PS), P.2 = S.2 → (∀ j, l ≤ j → j < l + k → lto j P ∧ pl_ P (P.2.2.1 32 j) < e ∧ (∀ z, P.2.2.2.1 33 j = some z → pl_ P z < e) ∧ (∀ j', j < j' → j' < l + k → pl_ P (P.2.2.1 32 j) < pl_ P (P.2.2.1 28 j') ∧ ∀ z, P.2.2.2.1 33 j = some z → pl_ P z < pl_ P (P.2.2.1 28 j'))) → abe e P → cmp P (cl_links ft gp c i k l P) (kl_links ft gp c i k l S)
  | 0, l, P, S, h2, _, _ => cmp_ok h2 rfl
  | k + 1, l, P, S, h2, hj, ha => by
    have h0 := hj l (Nat.le_refl _) (by omega)
    have c0 := cl_cmp (ft := ft) (gp := gp) (c := c) (i := i) h2 h0.1 (by
      rcases ha with q | q
      · exact Or.inl q
      · exact Or.inr ⟨Nat.lt_of_lt_of_le h0.2.1 q, fun z hz => Nat.lt_of_lt_of_le (h0.2.2.1 z hz) q⟩)
    have kk := kp_cl ft gp c i l P
    have kj : ∀ j, l + 1 ≤ j → j < l + 1 + k → lto j (cl_link ft gp c i l P) ∧ pl_ (cl_link ft gp c i l P) ((cl_link ft gp c i l P).2.2.1 32 j) < e ∧ (∀ z, (cl_link ft gp c i l P).2.2.2.1 33 j = some z → pl_ (cl_link ft gp c i l P) z < e) ∧ (∀ j', j < j' → j' < l + 1 + k → pl_ (cl_link ft gp c i l P) ((cl_link ft gp c i l P).2.2.1 32 j) < pl_ (cl_link ft gp c i l P) ((cl_link ft gp c i l P).2.2.1 28 j') ∧ ∀ z, (cl_link ft gp c i l P).2.2.2.1 33 j = some z → pl_ (cl_link ft gp c i l P) z < pl_ (cl_link ft gp c i l P) ((cl_link ft gp c i l P).2.2.1 28 j')) := by
      intro j j1 j2
      obtain ⟨q1, q2, q3, q4⟩ := hj j (by omega) (by omega)
      unfold pl_
      rw [kk.2.1 8 (by decide) (by decide), kk.2.1 32 (by decide) (by decide), kk.2.1 28 (by decide) (by decide), kk.2.2.1 33 (by decide) (by decide)]
      exact ⟨lto_kp kk q1, q2, q3, fun j' a b => q4 j' a (by omega)⟩
    show cmp P (cl_links ft gp c i k (l + 1) (cl_link ft gp c i l P)) (if (kl_link ft gp c i l S).1 = none then kl_links ft gp c i k (l + 1) (kl_link ft gp c i l S).2 else kl_link ft gp c i l S)
    by_cases hn : (kl_link ft gp c i l S).1 = none
    · rw [if_pos hn]
      obtain ⟨g1, g2⟩ := c0.1 hn
      have r := links_cmp (ft := ft) (gp := gp) (c := c) (i := i) (e := e) k (l + 1) (cl_link ft gp c i l P) (kl_link ft gp c i l S).2 g1 kj (by unfold abe; rw [g2]; exact ha)
      refine ⟨fun q => ⟨(r.1 q).1, (r.1 q).2.trans g2⟩, fun n t q => ?_⟩
      have := r.2 n t q
      rw [kk.2.1 8 (by decide) (by decide)] at this
      exact this
    · rw [if_neg hn]
      obtain ⟨⟨n, t⟩, hnt⟩ : ∃ x, (kl_link ft gp c i l S).1 = some x := Option.ne_none_iff_exists'.mp hn
      obtain ⟨g1, g2⟩ := c0.2 n t hnt
      refine ⟨fun q => absurd q hn, fun n' t' q => ?_⟩
      rw [hnt] at q; cases q
      have tk := kl_tok hnt
      have stay := links_blw (ft := ft) (gp := gp) (c := c) (i := i) k (l + 1) (cl_link ft gp c i l P) (fun j j1 j2 => (kj j j1 j2).1) (by rw [g1]; exact tk.1) (fun j j1 j2 => by
        have q4 := h0.2.2.2 j (by omega) (by omega)
        rw [g2, kk.2.1 8 (by decide) (by decide), kk.2.1 28 (by decide) (by decide)]
        unfold pl_ at q4
        unfold ktok at tk
        rw [← h2] at tk
        rcases tk.2 with q | q | q | q
        · rw [q]; exact Nat.lt_trans h0.1.a q4.1
        · exact Nat.lt_trans (h0.1.r _ q).2 q4.1
        · rw [q]; exact q4.1
        · exact q4.2 _ q)
      rw [stay]; exact ⟨g1, g2⟩
